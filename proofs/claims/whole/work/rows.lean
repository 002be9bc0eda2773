section
-- ===== PART A: goes FIRST, ahead of the names: the tables' words, and 'selects' of the private methods out of them =====
/-- a private method of a class that the tables say can be made, by its rows of tables_1 -/
def lw_okq (q : MethodName × Nat) : Prop := (q.1.cls ≠ "java/lang/invoke/MethodHandle" ∧ q.1.cls ≠ "java/lang/invoke/VarHandle") ∧ Cond.instantiable q.1.cls q.2 ∈ tables_1 ∧ Cond.privateMethod q.1 ∈ tables_1 ∧ Cond.instanceMethod q.1 ∈ tables_1
theorem lw_p0 : lw_okq (⟨"LakeChain", "isWhole", "()Z"⟩, 5) := ⟨⟨by decide +kernel, by decide +kernel⟩, List.mem_of_getElem? (i := 13) (by decide +kernel), List.mem_of_getElem? (i := 374) (by decide +kernel), List.mem_of_getElem? (i := 375) (by decide +kernel)⟩
theorem lw_p1 : lw_okq (⟨"LakeChain$Worths", "worthOf", "(LLakeChain$Node;II)J"⟩, 4) := ⟨⟨by decide +kernel, by decide +kernel⟩, List.mem_of_getElem? (i := 200) (by decide +kernel), List.mem_of_getElem? (i := 400) (by decide +kernel), List.mem_of_getElem? (i := 401) (by decide +kernel)⟩
theorem lw_p2 : lw_okq (⟨"LakeChain$Worths", "refresh", "(LLakeChain$Node;)V"⟩, 4) := ⟨⟨by decide +kernel, by decide +kernel⟩, List.mem_of_getElem? (i := 200) (by decide +kernel), List.mem_of_getElem? (i := 412) (by decide +kernel), List.mem_of_getElem? (i := 413) (by decide +kernel)⟩
theorem lw_p3 : lw_okq (⟨"LakeChain$Worths", "searchBest", "(LLakeChain$Node;II)J"⟩, 4) := ⟨⟨by decide +kernel, by decide +kernel⟩, List.mem_of_getElem? (i := 200) (by decide +kernel), List.mem_of_getElem? (i := 420) (by decide +kernel), List.mem_of_getElem? (i := 421) (by decide +kernel)⟩
theorem lw_p4 : lw_okq (⟨"LakeChain$Worths", "meanFrom", "(LLakeChain$Node;II)J"⟩, 4) := ⟨⟨by decide +kernel, by decide +kernel⟩, List.mem_of_getElem? (i := 200) (by decide +kernel), List.mem_of_getElem? (i := 450) (by decide +kernel), List.mem_of_getElem? (i := 451) (by decide +kernel)⟩
theorem lw_p5 : lw_okq (⟨"LakeChain$Worths", "meanOfChildren", "(LLakeChain$Node;II)J"⟩, 4) := ⟨⟨by decide +kernel, by decide +kernel⟩, List.mem_of_getElem? (i := 200) (by decide +kernel), List.mem_of_getElem? (i := 454) (by decide +kernel), List.mem_of_getElem? (i := 455) (by decide +kernel)⟩
theorem lw_p6 : lw_okq (⟨"LakeChain$Walk", "stepTo", "(LLakeChain$Node;LLakeChain$Node;)V"⟩, 2) := ⟨⟨by decide +kernel, by decide +kernel⟩, List.mem_of_getElem? (i := 219) (by decide +kernel), List.mem_of_getElem? (i := 505) (by decide +kernel), List.mem_of_getElem? (i := 506) (by decide +kernel)⟩
theorem lw_p7 : lw_okq (⟨"LakeChain$Walk", "endsCase", "(LLakeChain$Node;)Z"⟩, 2) := ⟨⟨by decide +kernel, by decide +kernel⟩, List.mem_of_getElem? (i := 219) (by decide +kernel), List.mem_of_getElem? (i := 533) (by decide +kernel), List.mem_of_getElem? (i := 534) (by decide +kernel)⟩
theorem lw_p8 : lw_okq (⟨"LakeChain$Walk", "totalOf", "(LLakeChain$Node;)J"⟩, 2) := ⟨⟨by decide +kernel, by decide +kernel⟩, List.mem_of_getElem? (i := 219) (by decide +kernel), List.mem_of_getElem? (i := 538) (by decide +kernel), List.mem_of_getElem? (i := 539) (by decide +kernel)⟩
theorem lw_p9 : lw_okq (⟨"LakeChain$Walk", "stoodAbove", "(LLakeChain$Node;III)Z"⟩, 2) := ⟨⟨by decide +kernel, by decide +kernel⟩, List.mem_of_getElem? (i := 219) (by decide +kernel), List.mem_of_getElem? (i := 568) (by decide +kernel), List.mem_of_getElem? (i := 569) (by decide +kernel)⟩
theorem lw_p10 : lw_okq (⟨"LakeChain", "refusalOfWeek", "(I)I"⟩, 5) := ⟨⟨by decide +kernel, by decide +kernel⟩, List.mem_of_getElem? (i := 13) (by decide +kernel), List.mem_of_getElem? (i := 593) (by decide +kernel), List.mem_of_getElem? (i := 594) (by decide +kernel)⟩
theorem lw_p11 : lw_okq (⟨"LakeChain", "letWeek", "(II)I"⟩, 5) := ⟨⟨by decide +kernel, by decide +kernel⟩, List.mem_of_getElem? (i := 13) (by decide +kernel), List.mem_of_getElem? (i := 616) (by decide +kernel), List.mem_of_getElem? (i := 617) (by decide +kernel)⟩
theorem lw_p12 : lw_okq (⟨"LakeChainModel", "states", "()I"⟩, 40) := ⟨⟨by decide +kernel, by decide +kernel⟩, List.mem_of_getElem? (i := 652) (by decide +kernel), List.mem_of_getElem? (i := 787) (by decide +kernel), List.mem_of_getElem? (i := 788) (by decide +kernel)⟩
theorem lw_p13 : lw_okq (⟨"LakeChainModel", "forget", "()V"⟩, 40) := ⟨⟨by decide +kernel, by decide +kernel⟩, List.mem_of_getElem? (i := 652) (by decide +kernel), List.mem_of_getElem? (i := 791) (by decide +kernel), List.mem_of_getElem? (i := 792) (by decide +kernel)⟩
theorem lw_p14 : lw_okq (⟨"LakeChainModel", "isLake", "(I)Z"⟩, 40) := ⟨⟨by decide +kernel, by decide +kernel⟩, List.mem_of_getElem? (i := 652) (by decide +kernel), List.mem_of_getElem? (i := 799) (by decide +kernel), List.mem_of_getElem? (i := 800) (by decide +kernel)⟩
theorem lw_p15 : lw_okq (⟨"LakeChainModel", "isNode", "(I)Z"⟩, 40) := ⟨⟨by decide +kernel, by decide +kernel⟩, List.mem_of_getElem? (i := 652) (by decide +kernel), List.mem_of_getElem? (i := 819) (by decide +kernel), List.mem_of_getElem? (i := 820) (by decide +kernel)⟩
def lw_privs_1 : List (MethodName × Nat) := [(⟨"LakeChain", "isWhole", "()Z"⟩, 5), (⟨"LakeChain$Worths", "worthOf", "(LLakeChain$Node;II)J"⟩, 4), (⟨"LakeChain$Worths", "refresh", "(LLakeChain$Node;)V"⟩, 4), (⟨"LakeChain$Worths", "searchBest", "(LLakeChain$Node;II)J"⟩, 4), (⟨"LakeChain$Worths", "meanFrom", "(LLakeChain$Node;II)J"⟩, 4), (⟨"LakeChain$Worths", "meanOfChildren", "(LLakeChain$Node;II)J"⟩, 4), (⟨"LakeChain$Walk", "stepTo", "(LLakeChain$Node;LLakeChain$Node;)V"⟩, 2), (⟨"LakeChain$Walk", "endsCase", "(LLakeChain$Node;)Z"⟩, 2), (⟨"LakeChain$Walk", "totalOf", "(LLakeChain$Node;)J"⟩, 2), (⟨"LakeChain$Walk", "stoodAbove", "(LLakeChain$Node;III)Z"⟩, 2), (⟨"LakeChain", "refusalOfWeek", "(I)I"⟩, 5), (⟨"LakeChain", "letWeek", "(II)I"⟩, 5), (⟨"LakeChainModel", "states", "()I"⟩, 40), (⟨"LakeChainModel", "forget", "()V"⟩, 40), (⟨"LakeChainModel", "isLake", "(I)Z"⟩, 40), (⟨"LakeChainModel", "isNode", "(I)Z"⟩, 40)]
theorem lw_r1 : ∀ q ∈ lw_privs_1, lw_okq q := List.forall_mem_cons.mpr ⟨lw_p0, List.forall_mem_cons.mpr ⟨lw_p1, List.forall_mem_cons.mpr ⟨lw_p2, List.forall_mem_cons.mpr ⟨lw_p3, List.forall_mem_cons.mpr ⟨lw_p4, List.forall_mem_cons.mpr ⟨lw_p5, List.forall_mem_cons.mpr ⟨lw_p6, List.forall_mem_cons.mpr ⟨lw_p7, List.forall_mem_cons.mpr ⟨lw_p8, List.forall_mem_cons.mpr ⟨lw_p9, List.forall_mem_cons.mpr ⟨lw_p10, List.forall_mem_cons.mpr ⟨lw_p11, List.forall_mem_cons.mpr ⟨lw_p12, List.forall_mem_cons.mpr ⟨lw_p13, List.forall_mem_cons.mpr ⟨lw_p14, List.forall_mem_cons.mpr ⟨lw_p15, fun _ h => absurd h List.not_mem_nil⟩⟩⟩⟩⟩⟩⟩⟩⟩⟩⟩⟩⟩⟩⟩⟩
theorem lw_p16 : lw_okq (⟨"LakeChainModel", "weightsOf", "(I)I"⟩, 40) := ⟨⟨by decide +kernel, by decide +kernel⟩, List.mem_of_getElem? (i := 652) (by decide +kernel), List.mem_of_getElem? (i := 823) (by decide +kernel), List.mem_of_getElem? (i := 824) (by decide +kernel)⟩
theorem lw_p17 : lw_okq (⟨"LakeChainModel", "isWhole", "()Z"⟩, 40) := ⟨⟨by decide +kernel, by decide +kernel⟩, List.mem_of_getElem? (i := 652) (by decide +kernel), List.mem_of_getElem? (i := 835) (by decide +kernel), List.mem_of_getElem? (i := 836) (by decide +kernel)⟩
theorem lw_p18 : lw_okq (⟨"LakeChainModel", "isState", "(I)Z"⟩, 40) := ⟨⟨by decide +kernel, by decide +kernel⟩, List.mem_of_getElem? (i := 652) (by decide +kernel), List.mem_of_getElem? (i := 843) (by decide +kernel), List.mem_of_getElem? (i := 844) (by decide +kernel)⟩
theorem lw_p19 : lw_okq (⟨"LakeChainModel", "worthOf", "(II)J"⟩, 40) := ⟨⟨by decide +kernel, by decide +kernel⟩, List.mem_of_getElem? (i := 652) (by decide +kernel), List.mem_of_getElem? (i := 848) (by decide +kernel), List.mem_of_getElem? (i := 849) (by decide +kernel)⟩
theorem lw_p20 : lw_okq (⟨"LakeChainModel", "prepare", "()V"⟩, 40) := ⟨⟨by decide +kernel, by decide +kernel⟩, List.mem_of_getElem? (i := 652) (by decide +kernel), List.mem_of_getElem? (i := 852) (by decide +kernel), List.mem_of_getElem? (i := 853) (by decide +kernel)⟩
theorem lw_p21 : lw_okq (⟨"LakeChainModel", "work", "(I)V"⟩, 40) := ⟨⟨by decide +kernel, by decide +kernel⟩, List.mem_of_getElem? (i := 652) (by decide +kernel), List.mem_of_getElem? (i := 856) (by decide +kernel), List.mem_of_getElem? (i := 857) (by decide +kernel)⟩
theorem lw_p22 : lw_okq (⟨"LakeChainModel", "spread", "(II)V"⟩, 40) := ⟨⟨by decide +kernel, by decide +kernel⟩, List.mem_of_getElem? (i := 652) (by decide +kernel), List.mem_of_getElem? (i := 860) (by decide +kernel), List.mem_of_getElem? (i := 861) (by decide +kernel)⟩
theorem lw_p23 : lw_okq (⟨"LakeChainModel", "unfold", "(I)V"⟩, 40) := ⟨⟨by decide +kernel, by decide +kernel⟩, List.mem_of_getElem? (i := 652) (by decide +kernel), List.mem_of_getElem? (i := 864) (by decide +kernel), List.mem_of_getElem? (i := 865) (by decide +kernel)⟩
theorem lw_p24 : lw_okq (⟨"LakeChainModel", "firstLets", "()V"⟩, 40) := ⟨⟨by decide +kernel, by decide +kernel⟩, List.mem_of_getElem? (i := 652) (by decide +kernel), List.mem_of_getElem? (i := 868) (by decide +kernel), List.mem_of_getElem? (i := 869) (by decide +kernel)⟩
theorem lw_p25 : lw_okq (⟨"LakeChainModel", "lowest", "(I)I"⟩, 40) := ⟨⟨by decide +kernel, by decide +kernel⟩, List.mem_of_getElem? (i := 652) (by decide +kernel), List.mem_of_getElem? (i := 872) (by decide +kernel), List.mem_of_getElem? (i := 873) (by decide +kernel)⟩
theorem lw_p26 : lw_okq (⟨"LakeChainModel", "comes", "(I)I"⟩, 40) := ⟨⟨by decide +kernel, by decide +kernel⟩, List.mem_of_getElem? (i := 652) (by decide +kernel), List.mem_of_getElem? (i := 876) (by decide +kernel), List.mem_of_getElem? (i := 877) (by decide +kernel)⟩
theorem lw_p27 : lw_okq (⟨"LakeChainModel", "nextLets", "()Z"⟩, 40) := ⟨⟨by decide +kernel, by decide +kernel⟩, List.mem_of_getElem? (i := 652) (by decide +kernel), List.mem_of_getElem? (i := 880) (by decide +kernel), List.mem_of_getElem? (i := 881) (by decide +kernel)⟩
theorem lw_p28 : lw_okq (⟨"LakeChainModel", "highest", "(I)I"⟩, 40) := ⟨⟨by decide +kernel, by decide +kernel⟩, List.mem_of_getElem? (i := 652) (by decide +kernel), List.mem_of_getElem? (i := 884) (by decide +kernel), List.mem_of_getElem? (i := 885) (by decide +kernel)⟩
theorem lw_p29 : lw_okq (⟨"LakeChainModel", "settle", "(II)V"⟩, 40) := ⟨⟨by decide +kernel, by decide +kernel⟩, List.mem_of_getElem? (i := 652) (by decide +kernel), List.mem_of_getElem? (i := 888) (by decide +kernel), List.mem_of_getElem? (i := 889) (by decide +kernel)⟩
theorem lw_p30 : lw_okq (⟨"LakeChainModel", "endOf", "(I)I"⟩, 40) := ⟨⟨by decide +kernel, by decide +kernel⟩, List.mem_of_getElem? (i := 652) (by decide +kernel), List.mem_of_getElem? (i := 892) (by decide +kernel), List.mem_of_getElem? (i := 893) (by decide +kernel)⟩
theorem lw_p31 : lw_okq (⟨"LakeChainModel", "scale", "(I)J"⟩, 40) := ⟨⟨by decide +kernel, by decide +kernel⟩, List.mem_of_getElem? (i := 652) (by decide +kernel), List.mem_of_getElem? (i := 896) (by decide +kernel), List.mem_of_getElem? (i := 897) (by decide +kernel)⟩
def lw_privs_2 : List (MethodName × Nat) := [(⟨"LakeChainModel", "weightsOf", "(I)I"⟩, 40), (⟨"LakeChainModel", "isWhole", "()Z"⟩, 40), (⟨"LakeChainModel", "isState", "(I)Z"⟩, 40), (⟨"LakeChainModel", "worthOf", "(II)J"⟩, 40), (⟨"LakeChainModel", "prepare", "()V"⟩, 40), (⟨"LakeChainModel", "work", "(I)V"⟩, 40), (⟨"LakeChainModel", "spread", "(II)V"⟩, 40), (⟨"LakeChainModel", "unfold", "(I)V"⟩, 40), (⟨"LakeChainModel", "firstLets", "()V"⟩, 40), (⟨"LakeChainModel", "lowest", "(I)I"⟩, 40), (⟨"LakeChainModel", "comes", "(I)I"⟩, 40), (⟨"LakeChainModel", "nextLets", "()Z"⟩, 40), (⟨"LakeChainModel", "highest", "(I)I"⟩, 40), (⟨"LakeChainModel", "settle", "(II)V"⟩, 40), (⟨"LakeChainModel", "endOf", "(I)I"⟩, 40), (⟨"LakeChainModel", "scale", "(I)J"⟩, 40)]
theorem lw_r2 : ∀ q ∈ lw_privs_2, lw_okq q := List.forall_mem_cons.mpr ⟨lw_p16, List.forall_mem_cons.mpr ⟨lw_p17, List.forall_mem_cons.mpr ⟨lw_p18, List.forall_mem_cons.mpr ⟨lw_p19, List.forall_mem_cons.mpr ⟨lw_p20, List.forall_mem_cons.mpr ⟨lw_p21, List.forall_mem_cons.mpr ⟨lw_p22, List.forall_mem_cons.mpr ⟨lw_p23, List.forall_mem_cons.mpr ⟨lw_p24, List.forall_mem_cons.mpr ⟨lw_p25, List.forall_mem_cons.mpr ⟨lw_p26, List.forall_mem_cons.mpr ⟨lw_p27, List.forall_mem_cons.mpr ⟨lw_p28, List.forall_mem_cons.mpr ⟨lw_p29, List.forall_mem_cons.mpr ⟨lw_p30, List.forall_mem_cons.mpr ⟨lw_p31, fun _ h => absurd h List.not_mem_nil⟩⟩⟩⟩⟩⟩⟩⟩⟩⟩⟩⟩⟩⟩⟩⟩
theorem lw_p32 : lw_okq (⟨"LakeChainModel", "earns", "(I)I"⟩, 40) := ⟨⟨by decide +kernel, by decide +kernel⟩, List.mem_of_getElem? (i := 652) (by decide +kernel), List.mem_of_getElem? (i := 900) (by decide +kernel), List.mem_of_getElem? (i := 901) (by decide +kernel)⟩
theorem lw_p33 : lw_okq (⟨"LakeChainModel", "bestLet", "(II)V"⟩, 40) := ⟨⟨by decide +kernel, by decide +kernel⟩, List.mem_of_getElem? (i := 652) (by decide +kernel), List.mem_of_getElem? (i := 908) (by decide +kernel), List.mem_of_getElem? (i := 909) (by decide +kernel)⟩
theorem lw_p34 : lw_okq (⟨"LakeChainModel", "unit", "(I)I"⟩, 40) := ⟨⟨by decide +kernel, by decide +kernel⟩, List.mem_of_getElem? (i := 652) (by decide +kernel), List.mem_of_getElem? (i := 916) (by decide +kernel), List.mem_of_getElem? (i := 917) (by decide +kernel)⟩
theorem lw_p35 : lw_okq (⟨"LakeChainModel", "walk", "(II)V"⟩, 40) := ⟨⟨by decide +kernel, by decide +kernel⟩, List.mem_of_getElem? (i := 652) (by decide +kernel), List.mem_of_getElem? (i := 932) (by decide +kernel), List.mem_of_getElem? (i := 933) (by decide +kernel)⟩
theorem lw_p36 : lw_okq (⟨"LakeChainModel", "ruledLet", "()V"⟩, 40) := ⟨⟨by decide +kernel, by decide +kernel⟩, List.mem_of_getElem? (i := 652) (by decide +kernel), List.mem_of_getElem? (i := 936) (by decide +kernel), List.mem_of_getElem? (i := 937) (by decide +kernel)⟩
theorem lw_p37 : lw_okq (⟨"LakeChainModel", "refused", "()I"⟩, 40) := ⟨⟨by decide +kernel, by decide +kernel⟩, List.mem_of_getElem? (i := 652) (by decide +kernel), List.mem_of_getElem? (i := 964) (by decide +kernel), List.mem_of_getElem? (i := 965) (by decide +kernel)⟩
theorem lw_p38 : lw_okq (⟨"LakeChainModel", "child", "(II)I"⟩, 40) := ⟨⟨by decide +kernel, by decide +kernel⟩, List.mem_of_getElem? (i := 652) (by decide +kernel), List.mem_of_getElem? (i := 968) (by decide +kernel), List.mem_of_getElem? (i := 969) (by decide +kernel)⟩
theorem lw_p39 : lw_okq (⟨"LakeChainModel", "goes", "(I)I"⟩, 40) := ⟨⟨by decide +kernel, by decide +kernel⟩, List.mem_of_getElem? (i := 652) (by decide +kernel), List.mem_of_getElem? (i := 972) (by decide +kernel), List.mem_of_getElem? (i := 973) (by decide +kernel)⟩
def lw_privs_3 : List (MethodName × Nat) := [(⟨"LakeChainModel", "earns", "(I)I"⟩, 40), (⟨"LakeChainModel", "bestLet", "(II)V"⟩, 40), (⟨"LakeChainModel", "unit", "(I)I"⟩, 40), (⟨"LakeChainModel", "walk", "(II)V"⟩, 40), (⟨"LakeChainModel", "ruledLet", "()V"⟩, 40), (⟨"LakeChainModel", "refused", "()I"⟩, 40), (⟨"LakeChainModel", "child", "(II)I"⟩, 40), (⟨"LakeChainModel", "goes", "(I)I"⟩, 40)]
theorem lw_r3 : ∀ q ∈ lw_privs_3, lw_okq q := List.forall_mem_cons.mpr ⟨lw_p32, List.forall_mem_cons.mpr ⟨lw_p33, List.forall_mem_cons.mpr ⟨lw_p34, List.forall_mem_cons.mpr ⟨lw_p35, List.forall_mem_cons.mpr ⟨lw_p36, List.forall_mem_cons.mpr ⟨lw_p37, List.forall_mem_cons.mpr ⟨lw_p38, List.forall_mem_cons.mpr ⟨lw_p39, fun _ h => absurd h List.not_mem_nil⟩⟩⟩⟩⟩⟩⟩⟩
def lw_privs : List (MethodName × Nat) := lw_privs_1 ++ (lw_privs_2 ++ (lw_privs_3))
def lw_tbl : List Cond := k2_sels lw_privs ++ tables_1
theorem lw_privs_ok : ∀ q ∈ lw_privs, lw_okq q := by
  show ∀ q ∈ lw_privs_1 ++ (lw_privs_2 ++ (lw_privs_3)), lw_okq q
  exact List.forall_mem_append.mpr ⟨lw_r1, List.forall_mem_append.mpr ⟨lw_r2, lw_r3⟩⟩
end
section
def RX0 : String := "LakeChain$Lake"
def TX0 : u_T := fun k => match k with
  | 0 => ("LakeChain$Lake", "heads", "[I", true)
  | 1 => ("LakeChain$Lake", "least", "I", false)
  | 2 => ("LakeChain$Lake", "greatest", "I", false)
  | 3 => ("LakeChain$Lake", "limit", "I", false)
  | 4 => ("LakeChain$Lake", "fish", "I", false)
  | 5 => ("LakeChain$Lake", "endPrice", "I", false)
  | 6 => ("LakeChain$Lake", "ruleKeeps", "I", false)
  | 7 => ("LakeChain$Lake", "ruleMost", "I", false)
  | _ => ("LakeChain$Lake", "stride", "I", false)
def tyX0 : Nat → FieldType := fun k => match k with
  | 0 => .array .int
  | 1 => .int
  | 2 => .int
  | 3 => .int
  | 4 => .int
  | 5 => .int
  | 6 => .int
  | 7 => .int
  | _ => .int
abbrev wsX00 : List Cond := u_ws RX0 TX0 9
theorem nmX0 : ∀ a, a < 9 → ∀ b, b < 9 → a ≠ b → (TX0 a).2.1 ≠ (TX0 b).2.1 := by decide +kernel
theorem tyX0_ok : ∀ k, k < 9 → parseFieldDescriptor (TX0 k).2.2.1 = some (tyX0 k) := by decide +kernel
abbrev cX0_init : ByteArray := prog_2_method_1_code
def yX0_init : MethodName := ⟨RX0, "<init>", "()V"⟩
abbrev cX0_headAt : ByteArray := prog_2_method_2_code
def yX0_headAt : MethodName := ⟨RX0, "headAt", "(I)I"⟩
abbrev cX0_takesHead : ByteArray := prog_2_method_3_code
def yX0_takesHead : MethodName := ⟨RX0, "takesHead", "(II)Z"⟩
abbrev cX0_leastLet : ByteArray := prog_2_method_4_code
def yX0_leastLet : MethodName := ⟨RX0, "leastLet", "(I)I"⟩
abbrev cX0_mostLet : ByteArray := prog_2_method_5_code
def yX0_mostLet : MethodName := ⟨RX0, "mostLet", "(I)I"⟩
abbrev cX0_ruleLet : ByteArray := prog_2_method_6_code
def yX0_ruleLet : MethodName := ⟨RX0, "ruleLet", "(I)I"⟩
def RX1 : String := "LakeChain$Node"
def TX1 : u_T := fun k => match k with
  | 0 => ("LakeChain$Node", "number", "I", true)
  | 1 => ("LakeChain$Node", "in", "[I", true)
  | 2 => ("LakeChain$Node", "children", "[LLakeChain$Node;", true)
  | 3 => ("LakeChain$Node", "parent", "LLakeChain$Node;", false)
  | 4 => ("LakeChain$Node", "weight", "I", false)
  | 5 => ("LakeChain$Node", "week", "I", false)
  | 6 => ("LakeChain$Node", "below", "I", false)
  | 7 => ("LakeChain$Node", "weightBelow", "I", false)
  | 8 => ("LakeChain$Node", "worthRow", "[J", false)
  | 9 => ("LakeChain$Node", "meanRow", "[J", false)
  | 10 => ("LakeChain$Node", "knownAt", "I", false)
  | 11 => ("LakeChain$Node", "isReached", "Z", false)
  | 12 => ("LakeChain$Node", "state", "I", false)
  | 13 => ("LakeChain$Node", "earned", "I", false)
  | 14 => ("LakeChain$Node", "share", "J", false)
  | _ => ("LakeChain$Node", "hasLacked", "Z", false)
def tyX1 : Nat → FieldType := fun k => match k with
  | 0 => .int
  | 1 => .array .int
  | 2 => .array (.object "LakeChain$Node")
  | 3 => .object "LakeChain$Node"
  | 4 => .int
  | 5 => .int
  | 6 => .int
  | 7 => .int
  | 8 => .array .long
  | 9 => .array .long
  | 10 => .int
  | 11 => .boolean
  | 12 => .int
  | 13 => .int
  | 14 => .long
  | _ => .boolean
abbrev wsX10 : List Cond := u_ws RX1 TX1 16
theorem nmX1 : ∀ a, a < 16 → ∀ b, b < 16 → a ≠ b → (TX1 a).2.1 ≠ (TX1 b).2.1 := by decide +kernel
theorem tyX1_ok : ∀ k, k < 16 → parseFieldDescriptor (TX1 k).2.2.1 = some (tyX1 k) := by decide +kernel
abbrev cX1_init : ByteArray := prog_3_method_1_code
def yX1_init : MethodName := ⟨RX1, "<init>", "(I)V"⟩
abbrev cX1_childAt : ByteArray := prog_3_method_2_code
def yX1_childAt : MethodName := ⟨RX1, "childAt", "(I)LLakeChain$Node;"⟩
abbrev cX1_sumIn : ByteArray := prog_3_method_3_code
def yX1_sumIn : MethodName := ⟨RX1, "sumIn", "()I"⟩
abbrev cX1_addChild : ByteArray := prog_3_method_4_code
def yX1_addChild : MethodName := ⟨RX1, "addChild", "(LLakeChain$Node;)V"⟩
abbrev cX1_dropChildren : ByteArray := prog_3_method_5_code
def yX1_dropChildren : MethodName := ⟨RX1, "dropChildren", "()V"⟩
def RX2 : String := "LakeChain$Run"
def TX2 : u_T := fun k => match k with
  | 0 => ("LakeChain$Run", "states", "[I", true)
  | 1 => ("LakeChain$Run", "earned", "[I", true)
  | 2 => ("LakeChain$Run", "spilled", "[I", true)
  | 3 => ("LakeChain$Run", "letOut", "[I", true)
  | 4 => ("LakeChain$Run", "cameIn", "[I", true)
  | 5 => ("LakeChain$Run", "isOn", "Z", false)
  | 6 => ("LakeChain$Run", "length", "I", false)
  | _ => ("LakeChain$Run", "at", "LLakeChain$Node;", false)
def tyX2 : Nat → FieldType := fun k => match k with
  | 0 => .array .int
  | 1 => .array .int
  | 2 => .array .int
  | 3 => .array .int
  | 4 => .array .int
  | 5 => .boolean
  | 6 => .int
  | _ => .object "LakeChain$Node"
abbrev wsX20 : List Cond := u_ws RX2 TX2 8
theorem nmX2 : ∀ a, a < 8 → ∀ b, b < 8 → a ≠ b → (TX2 a).2.1 ≠ (TX2 b).2.1 := by decide +kernel
theorem tyX2_ok : ∀ k, k < 8 → parseFieldDescriptor (TX2 k).2.2.1 = some (tyX2 k) := by decide +kernel
abbrev cX2_init : ByteArray := prog_4_method_1_code
def yX2_init : MethodName := ⟨RX2, "<init>", "()V"⟩
abbrev cX2_startAt : ByteArray := prog_4_method_2_code
def yX2_startAt : MethodName := ⟨RX2, "startAt", "(LLakeChain$Node;I)V"⟩
abbrev cX2_stateNow : ByteArray := prog_4_method_3_code
def yX2_stateNow : MethodName := ⟨RX2, "stateNow", "()I"⟩
abbrev cX2_goOn : ByteArray := prog_4_method_4_code
def yX2_goOn : MethodName := ⟨RX2, "goOn", "(LLakeChain$Node;IIII)V"⟩
def RX3 : String := "LakeChain$Tree"
def TX3 : u_T := fun k => match k with
  | 0 => ("LakeChain$Tree", "nodes", "[LLakeChain$Node;", true)
  | 1 => ("LakeChain$Tree", "prices", "[I", true)
  | 2 => ("LakeChain$Tree", "made", "I", false)
  | 3 => ("LakeChain$Tree", "weekCount", "I", false)
  | _ => ("LakeChain$Tree", "parts", "I", false)
def tyX3 : Nat → FieldType := fun k => match k with
  | 0 => .array (.object "LakeChain$Node")
  | 1 => .array .int
  | 2 => .int
  | 3 => .int
  | _ => .int
abbrev wsX30 : List Cond := u_ws RX3 TX3 5
theorem nmX3 : ∀ a, a < 5 → ∀ b, b < 5 → a ≠ b → (TX3 a).2.1 ≠ (TX3 b).2.1 := by decide +kernel
theorem tyX3_ok : ∀ k, k < 5 → parseFieldDescriptor (TX3 k).2.2.1 = some (tyX3 k) := by decide +kernel
abbrev cX3_init : ByteArray := prog_5_method_1_code
def yX3_init : MethodName := ⟨RX3, "<init>", "()V"⟩
abbrev cX3_clear : ByteArray := prog_5_method_2_code
def yX3_clear : MethodName := ⟨RX3, "clear", "(II)V"⟩
abbrev cX3_nodeAt : ByteArray := prog_5_method_3_code
def yX3_nodeAt : MethodName := ⟨RX3, "nodeAt", "(I)LLakeChain$Node;"⟩
abbrev cX3_addNode : ByteArray := prog_5_method_4_code
def yX3_addNode : MethodName := ⟨RX3, "addNode", "(LLakeChain$Node;I)LLakeChain$Node;"⟩
abbrev cX3_isLast : ByteArray := prog_5_method_5_code
def yX3_isLast : MethodName := ⟨RX3, "isLast", "(LLakeChain$Node;)Z"⟩
abbrev cX3_weeksLeft : ByteArray := prog_5_method_6_code
def yX3_weeksLeft : MethodName := ⟨RX3, "weeksLeft", "(LLakeChain$Node;)I"⟩
abbrev cX3_priceFrom : ByteArray := prog_5_method_7_code
def yX3_priceFrom : MethodName := ⟨RX3, "priceFrom", "(LLakeChain$Node;)I"⟩
abbrev cX3_isFilled : ByteArray := prog_5_method_8_code
def yX3_isFilled : MethodName := ⟨RX3, "isFilled", "()Z"⟩
abbrev cX3_scaleOf : ByteArray := prog_5_method_9_code
def yX3_scaleOf : MethodName := ⟨RX3, "scaleOf", "(I)J"⟩
def RX4 : String := "LakeChain$Valley"
def TX4 : u_T := fun k => match k with
  | 0 => ("LakeChain$Valley", "lakes", "[LLakeChain$Lake;", true)
  | 1 => ("LakeChain$Valley", "made", "I", false)
  | 2 => ("LakeChain$Valley", "states", "I", false)
  | _ => ("LakeChain$Valley", "spilled", "I", false)
def tyX4 : Nat → FieldType := fun k => match k with
  | 0 => .array (.object "LakeChain$Lake")
  | 1 => .int
  | 2 => .int
  | _ => .int
abbrev wsX40 : List Cond := u_ws RX4 TX4 4
theorem nmX4 : ∀ a, a < 4 → ∀ b, b < 4 → a ≠ b → (TX4 a).2.1 ≠ (TX4 b).2.1 := by decide +kernel
theorem tyX4_ok : ∀ k, k < 4 → parseFieldDescriptor (TX4 k).2.2.1 = some (tyX4 k) := by decide +kernel
abbrev cX4_init : ByteArray := prog_6_method_1_code
def yX4_init : MethodName := ⟨RX4, "<init>", "()V"⟩
abbrev cX4_addLake : ByteArray := prog_6_method_2_code
def yX4_addLake : MethodName := ⟨RX4, "addLake", "(IIII)I"⟩
abbrev cX4_lakeAt : ByteArray := prog_6_method_3_code
def yX4_lakeAt : MethodName := ⟨RX4, "lakeAt", "(I)LLakeChain$Lake;"⟩
abbrev cX4_hasState : ByteArray := prog_6_method_4_code
def yX4_hasState : MethodName := ⟨RX4, "hasState", "(I)Z"⟩
abbrev cX4_measureOf : ByteArray := prog_6_method_5_code
def yX4_measureOf : MethodName := ⟨RX4, "measureOf", "(II)I"⟩
abbrev cX4_sumOf : ByteArray := prog_6_method_6_code
def yX4_sumOf : MethodName := ⟨RX4, "sumOf", "(I)I"⟩
abbrev cX4_endWorth : ByteArray := prog_6_method_7_code
def yX4_endWorth : MethodName := ⟨RX4, "endWorth", "(I)J"⟩
abbrev cX4_isBelowLeast : ByteArray := prog_6_method_8_code
def yX4_isBelowLeast : MethodName := ⟨RX4, "isBelowLeast", "(I)Z"⟩
abbrev cX4_mostIn : ByteArray := prog_6_method_9_code
def yX4_mostIn : MethodName := ⟨RX4, "mostIn", "()I"⟩
abbrev cX4_tellIn : ByteArray := prog_6_method_10_code
def yX4_tellIn : MethodName := ⟨RX4, "tellIn", "(I[I)V"⟩
abbrev cX4_mostLets : ByteArray := prog_6_method_11_code
def yX4_mostLets : MethodName := ⟨RX4, "mostLets", "()I"⟩
abbrev cX4_allLets : ByteArray := prog_6_method_12_code
def yX4_allLets : MethodName := ⟨RX4, "allLets", "(I)I"⟩
abbrev cX4_letOf : ByteArray := prog_6_method_13_code
def yX4_letOf : MethodName := ⟨RX4, "letOf", "(II)I"⟩
abbrev cX4_mayLet : ByteArray := prog_6_method_14_code
def yX4_mayLet : MethodName := ⟨RX4, "mayLet", "(II)Z"⟩
abbrev cX4_ruleLets : ByteArray := prog_6_method_15_code
def yX4_ruleLets : MethodName := ⟨RX4, "ruleLets", "(I)I"⟩
abbrev cX4_headsTimesLets : ByteArray := prog_6_method_16_code
def yX4_headsTimesLets : MethodName := ⟨RX4, "headsTimesLets", "(II)I"⟩
abbrev cX4_flow : ByteArray := prog_6_method_17_code
def yX4_flow : MethodName := ⟨RX4, "flow", "(II[I)I"⟩
def RX5 : String := "LakeChain$Walk"
def TX5 : u_T := fun k => match k with
  | 0 => ("LakeChain$Walk", "valley", "LLakeChain$Valley;", true)
  | _ => ("LakeChain$Walk", "tree", "LLakeChain$Tree;", true)
def tyX5 : Nat → FieldType := fun k => match k with
  | 0 => .object "LakeChain$Valley"
  | _ => .object "LakeChain$Tree"
abbrev wsX50 : List Cond := u_ws RX5 TX5 2
theorem nmX5 : ∀ a, a < 2 → ∀ b, b < 2 → a ≠ b → (TX5 a).2.1 ≠ (TX5 b).2.1 := by decide +kernel
theorem tyX5_ok : ∀ k, k < 2 → parseFieldDescriptor (TX5 k).2.2.1 = some (tyX5 k) := by decide +kernel
abbrev cX5_init : ByteArray := prog_7_method_1_code
def yX5_init : MethodName := ⟨RX5, "<init>", "(LLakeChain$Valley;LLakeChain$Tree;)V"⟩
abbrev cX5_go : ByteArray := prog_7_method_2_code
def yX5_go : MethodName := ⟨RX5, "go", "(LLakeChain$Node;I)V"⟩
abbrev cX5_stepTo : ByteArray := prog_7_method_3_code
def yX5_stepTo : MethodName := ⟨RX5, "stepTo", "(LLakeChain$Node;LLakeChain$Node;)V"⟩
abbrev cX5_endsCase : ByteArray := prog_7_method_4_code
def yX5_endsCase : MethodName := ⟨RX5, "endsCase", "(LLakeChain$Node;)Z"⟩
abbrev cX5_totalOf : ByteArray := prog_7_method_5_code
def yX5_totalOf : MethodName := ⟨RX5, "totalOf", "(LLakeChain$Node;)J"⟩
abbrev cX5_allCases : ByteArray := prog_7_method_6_code
def yX5_allCases : MethodName := ⟨RX5, "allCases", "()I"⟩
abbrev cX5_meanOfCases : ByteArray := prog_7_method_7_code
def yX5_meanOfCases : MethodName := ⟨RX5, "meanOfCases", "()J"⟩
abbrev cX5_leastOfCases : ByteArray := prog_7_method_8_code
def yX5_leastOfCases : MethodName := ⟨RX5, "leastOfCases", "()J"⟩
abbrev cX5_casesOfLack : ByteArray := prog_7_method_9_code
def yX5_casesOfLack : MethodName := ⟨RX5, "casesOfLack", "()I"⟩
abbrev cX5_casesOfFlood : ByteArray := prog_7_method_10_code
def yX5_casesOfFlood : MethodName := ⟨RX5, "casesOfFlood", "(III)I"⟩
abbrev cX5_stoodAbove : ByteArray := prog_7_method_11_code
def yX5_stoodAbove : MethodName := ⟨RX5, "stoodAbove", "(LLakeChain$Node;III)Z"⟩
def RX6 : String := "LakeChain$Worths"
def TX6 : u_T := fun k => match k with
  | 0 => ("LakeChain$Worths", "valley", "LLakeChain$Valley;", true)
  | 1 => ("LakeChain$Worths", "tree", "LLakeChain$Tree;", true)
  | 2 => ("LakeChain$Worths", "version", "I", false)
  | _ => ("LakeChain$Worths", "foundLets", "I", false)
def tyX6 : Nat → FieldType := fun k => match k with
  | 0 => .object "LakeChain$Valley"
  | 1 => .object "LakeChain$Tree"
  | 2 => .int
  | _ => .int
abbrev wsX60 : List Cond := u_ws RX6 TX6 4
theorem nmX6 : ∀ a, a < 4 → ∀ b, b < 4 → a ≠ b → (TX6 a).2.1 ≠ (TX6 b).2.1 := by decide +kernel
theorem tyX6_ok : ∀ k, k < 4 → parseFieldDescriptor (TX6 k).2.2.1 = some (tyX6 k) := by decide +kernel
abbrev cX6_init : ByteArray := prog_8_method_1_code
def yX6_init : MethodName := ⟨RX6, "<init>", "(LLakeChain$Valley;LLakeChain$Tree;)V"⟩
abbrev cX6_forget : ByteArray := prog_8_method_2_code
def yX6_forget : MethodName := ⟨RX6, "forget", "()V"⟩
abbrev cX6_bestLets : ByteArray := prog_8_method_3_code
def yX6_bestLets : MethodName := ⟨RX6, "bestLets", "(LLakeChain$Node;I)I"⟩
abbrev cX6_worthAt : ByteArray := prog_8_method_4_code
def yX6_worthAt : MethodName := ⟨RX6, "worthAt", "(LLakeChain$Node;I)J"⟩
abbrev cX6_worthOf : ByteArray := prog_8_method_5_code
def yX6_worthOf : MethodName := ⟨RX6, "worthOf", "(LLakeChain$Node;II)J"⟩
abbrev cX6_refresh : ByteArray := prog_8_method_6_code
def yX6_refresh : MethodName := ⟨RX6, "refresh", "(LLakeChain$Node;)V"⟩
abbrev cX6_searchBest : ByteArray := prog_8_method_7_code
def yX6_searchBest : MethodName := ⟨RX6, "searchBest", "(LLakeChain$Node;II)J"⟩
abbrev cX6_meanFrom : ByteArray := prog_8_method_8_code
def yX6_meanFrom : MethodName := ⟨RX6, "meanFrom", "(LLakeChain$Node;II)J"⟩
abbrev cX6_meanOfChildren : ByteArray := prog_8_method_9_code
def yX6_meanOfChildren : MethodName := ⟨RX6, "meanOfChildren", "(LLakeChain$Node;II)J"⟩
def RX7 : String := "LakeChain"
def TX7 : u_T := fun k => match k with
  | 0 => ("LakeChain", "valley", "LLakeChain$Valley;", true)
  | 1 => ("LakeChain", "tree", "LLakeChain$Tree;", true)
  | 2 => ("LakeChain", "worths", "LLakeChain$Worths;", true)
  | 3 => ("LakeChain", "walk", "LLakeChain$Walk;", true)
  | _ => ("LakeChain", "run", "LLakeChain$Run;", true)
def tyX7 : Nat → FieldType := fun k => match k with
  | 0 => .object "LakeChain$Valley"
  | 1 => .object "LakeChain$Tree"
  | 2 => .object "LakeChain$Worths"
  | 3 => .object "LakeChain$Walk"
  | _ => .object "LakeChain$Run"
abbrev wsX70 : List Cond := u_ws RX7 TX7 5
theorem nmX7 : ∀ a, a < 5 → ∀ b, b < 5 → a ≠ b → (TX7 a).2.1 ≠ (TX7 b).2.1 := by decide +kernel
theorem tyX7_ok : ∀ k, k < 5 → parseFieldDescriptor (TX7 k).2.2.1 = some (tyX7 k) := by decide +kernel
abbrev cX7_init : ByteArray := prog_1_method_1_code
def yX7_init : MethodName := ⟨RX7, "<init>", "()V"⟩
abbrev cX7_lake : ByteArray := prog_1_method_2_code
def yX7_lake : MethodName := ⟨RX7, "lake", "(IIII)I"⟩
abbrev cX7_head : ByteArray := prog_1_method_3_code
def yX7_head : MethodName := ⟨RX7, "head", "(III)I"⟩
abbrev cX7_end : ByteArray := prog_1_method_4_code
def yX7_end : MethodName := ⟨RX7, "end", "(II)I"⟩
abbrev cX7_weeks : ByteArray := prog_1_method_5_code
def yX7_weeks : MethodName := ⟨RX7, "weeks", "(II)I"⟩
abbrev cX7_price : ByteArray := prog_1_method_6_code
def yX7_price : MethodName := ⟨RX7, "price", "(II)I"⟩
abbrev cX7_node : ByteArray := prog_1_method_7_code
def yX7_node : MethodName := ⟨RX7, "node", "(III)I"⟩
abbrev cX7_about : ByteArray := prog_1_method_8_code
def yX7_about : MethodName := ⟨RX7, "about", "(II)I"⟩
abbrev cX7_count : ByteArray := prog_1_method_9_code
def yX7_count : MethodName := ⟨RX7, "count", "(I)I"⟩
abbrev cX7_worth : ByteArray := prog_1_method_10_code
def yX7_worth : MethodName := ⟨RX7, "worth", "(II)J"⟩
abbrev cX7_policy : ByteArray := prog_1_method_11_code
def yX7_policy : MethodName := ⟨RX7, "policy", "(III)I"⟩
abbrev cX7_water : ByteArray := prog_1_method_12_code
def yX7_water : MethodName := ⟨RX7, "water", "(III)J"⟩
abbrev cX7_needs : ByteArray := prog_1_method_13_code
def yX7_needs : MethodName := ⟨RX7, "needs", "(IJ)I"⟩
abbrev cX7_rule : ByteArray := prog_1_method_14_code
def yX7_rule : MethodName := ⟨RX7, "rule", "(III)I"⟩
abbrev cX7_mean : ByteArray := prog_1_method_15_code
def yX7_mean : MethodName := ⟨RX7, "mean", "(II)J"⟩
abbrev cX7_worst : ByteArray := prog_1_method_16_code
def yX7_worst : MethodName := ⟨RX7, "worst", "(II)J"⟩
abbrev cX7_lack : ByteArray := prog_1_method_17_code
def yX7_lack : MethodName := ⟨RX7, "lack", "(II)I"⟩
abbrev cX7_flood : ByteArray := prog_1_method_18_code
def yX7_flood : MethodName := ⟨RX7, "flood", "(IIII)I"⟩
abbrev cX7_cases : ByteArray := prog_1_method_19_code
def yX7_cases : MethodName := ⟨RX7, "cases", "(I)I"⟩
abbrev cX7_begin : ByteArray := prog_1_method_20_code
def yX7_begin : MethodName := ⟨RX7, "begin", "(I)I"⟩
abbrev cX7_week : ByteArray := prog_1_method_21_code
def yX7_week : MethodName := ⟨RX7, "week", "(II)I"⟩
abbrev cX7_best : ByteArray := prog_1_method_22_code
def yX7_best : MethodName := ⟨RX7, "best", "(I)I"⟩
abbrev cX7_ruled : ByteArray := prog_1_method_23_code
def yX7_ruled : MethodName := ⟨RX7, "ruled", "(I)I"⟩
abbrev cX7_undo : ByteArray := prog_1_method_24_code
def yX7_undo : MethodName := ⟨RX7, "undo", "()I"⟩
abbrev cX7_stop : ByteArray := prog_1_method_25_code
def yX7_stop : MethodName := ⟨RX7, "stop", "()I"⟩
abbrev cX7_now : ByteArray := prog_1_method_26_code
def yX7_now : MethodName := ⟨RX7, "now", "(I)I"⟩
abbrev cX7_isWithin : ByteArray := prog_1_method_27_code
def yX7_isWithin : MethodName := ⟨RX7, "isWithin", "(II)Z"⟩
abbrev cX7_isWhole : ByteArray := prog_1_method_28_code
def yX7_isWhole : MethodName := ⟨RX7, "isWhole", "()Z"⟩
abbrev cX7_refusalOfWeek : ByteArray := prog_1_method_29_code
def yX7_refusalOfWeek : MethodName := ⟨RX7, "refusalOfWeek", "(I)I"⟩
abbrev cX7_letWeek : ByteArray := prog_1_method_30_code
def yX7_letWeek : MethodName := ⟨RX7, "letWeek", "(II)I"⟩
def RX8 : String := "LakeChainModel"
def TX8 : u_T := fun k => match k with
  | 0 => ("LakeChainModel", "code", "I", false)
  | 1 => ("LakeChainModel", "lakes", "I", false)
  | 2 => ("LakeChainModel", "least", "[I", true)
  | 3 => ("LakeChainModel", "greatest", "[I", true)
  | 4 => ("LakeChainModel", "limit", "[I", true)
  | 5 => ("LakeChainModel", "fish", "[I", true)
  | 6 => ("LakeChainModel", "heads", "[I", true)
  | 7 => ("LakeChainModel", "ends", "[I", true)
  | 8 => ("LakeChainModel", "weeks", "I", false)
  | 9 => ("LakeChainModel", "parts", "I", false)
  | 10 => ("LakeChainModel", "prices", "[I", true)
  | 11 => ("LakeChainModel", "nodes", "I", false)
  | 12 => ("LakeChainModel", "parent", "[I", true)
  | 13 => ("LakeChainModel", "weight", "[I", true)
  | 14 => ("LakeChainModel", "weekOf", "[I", true)
  | 15 => ("LakeChainModel", "inflow", "[I", true)
  | 16 => ("LakeChainModel", "measure", "[I", true)
  | 17 => ("LakeChainModel", "let", "[I", true)
  | 18 => ("LakeChainModel", "spilled", "I", false)
  | 19 => ("LakeChainModel", "known", "Z", false)
  | 20 => ("LakeChainModel", "isKnown", "[Z", true)
  | 21 => ("LakeChainModel", "asked", "[Z", true)
  | 22 => ("LakeChainModel", "worths", "[J", true)
  | 23 => ("LakeChainModel", "bestLets", "[I", true)
  | 24 => ("LakeChainModel", "ruleA", "[I", true)
  | 25 => ("LakeChainModel", "ruleB", "[I", true)
  | 26 => ("LakeChainModel", "below", "[Z", true)
  | 27 => ("LakeChainModel", "stateAt", "[I", true)
  | 28 => ("LakeChainModel", "earnedTo", "[I", true)
  | 29 => ("LakeChainModel", "lacks", "[Z", true)
  | 30 => ("LakeChainModel", "means", "[J", true)
  | 31 => ("LakeChainModel", "casesOf", "[I", true)
  | 32 => ("LakeChainModel", "hasRun", "Z", false)
  | 33 => ("LakeChainModel", "gone", "I", false)
  | 34 => ("LakeChainModel", "runNode", "[I", true)
  | 35 => ("LakeChainModel", "runState", "[I", true)
  | 36 => ("LakeChainModel", "runEarned", "[I", true)
  | 37 => ("LakeChainModel", "runSpilled", "[I", true)
  | 38 => ("LakeChainModel", "runOut", "[I", true)
  | _ => ("LakeChainModel", "runIn", "[I", true)
def tyX8 : Nat → FieldType := fun k => match k with
  | 0 => .int
  | 1 => .int
  | 2 => .array .int
  | 3 => .array .int
  | 4 => .array .int
  | 5 => .array .int
  | 6 => .array .int
  | 7 => .array .int
  | 8 => .int
  | 9 => .int
  | 10 => .array .int
  | 11 => .int
  | 12 => .array .int
  | 13 => .array .int
  | 14 => .array .int
  | 15 => .array .int
  | 16 => .array .int
  | 17 => .array .int
  | 18 => .int
  | 19 => .boolean
  | 20 => .array .boolean
  | 21 => .array .boolean
  | 22 => .array .long
  | 23 => .array .int
  | 24 => .array .int
  | 25 => .array .int
  | 26 => .array .boolean
  | 27 => .array .int
  | 28 => .array .int
  | 29 => .array .boolean
  | 30 => .array .long
  | 31 => .array .int
  | 32 => .boolean
  | 33 => .int
  | 34 => .array .int
  | 35 => .array .int
  | 36 => .array .int
  | 37 => .array .int
  | 38 => .array .int
  | _ => .array .int
abbrev wsX80 : List Cond := u_ws RX8 TX8 40
theorem nmX8 : ∀ a, a < 40 → ∀ b, b < 40 → a ≠ b → (TX8 a).2.1 ≠ (TX8 b).2.1 := by decide +kernel
theorem tyX8_ok : ∀ k, k < 40 → parseFieldDescriptor (TX8 k).2.2.1 = some (tyX8 k) := by decide +kernel
abbrev cX8_in : ByteArray := prog_10_method_2_code
def yX8_in : MethodName := ⟨RX8, "in", "(III)Z"⟩
abbrev cX8_init : ByteArray := prog_10_method_3_code
def yX8_init : MethodName := ⟨RX8, "<init>", "()V"⟩
abbrev cX8_states : ByteArray := prog_10_method_4_code
def yX8_states : MethodName := ⟨RX8, "states", "()I"⟩
abbrev cX8_isLake : ByteArray := prog_10_method_5_code
def yX8_isLake : MethodName := ⟨RX8, "isLake", "(I)Z"⟩
abbrev cX8_isNode : ByteArray := prog_10_method_6_code
def yX8_isNode : MethodName := ⟨RX8, "isNode", "(I)Z"⟩
abbrev cX8_isState : ByteArray := prog_10_method_7_code
def yX8_isState : MethodName := ⟨RX8, "isState", "(I)Z"⟩
abbrev cX8_forget : ByteArray := prog_10_method_8_code
def yX8_forget : MethodName := ⟨RX8, "forget", "()V"⟩
abbrev cX8_lake : ByteArray := prog_10_method_9_code
def yX8_lake : MethodName := ⟨RX8, "lake", "(IIII)I"⟩
abbrev cX8_head : ByteArray := prog_10_method_10_code
def yX8_head : MethodName := ⟨RX8, "head", "(III)I"⟩
abbrev cX8_end : ByteArray := prog_10_method_11_code
def yX8_end : MethodName := ⟨RX8, "end", "(II)I"⟩
abbrev cX8_weeks : ByteArray := prog_10_method_12_code
def yX8_weeks : MethodName := ⟨RX8, "weeks", "(II)I"⟩
abbrev cX8_price : ByteArray := prog_10_method_13_code
def yX8_price : MethodName := ⟨RX8, "price", "(II)I"⟩
abbrev cX8_weightsOf : ByteArray := prog_10_method_14_code
def yX8_weightsOf : MethodName := ⟨RX8, "weightsOf", "(I)I"⟩
abbrev cX8_node : ByteArray := prog_10_method_15_code
def yX8_node : MethodName := ⟨RX8, "node", "(III)I"⟩
abbrev cX8_about : ByteArray := prog_10_method_16_code
def yX8_about : MethodName := ⟨RX8, "about", "(II)I"⟩
abbrev cX8_isWhole : ByteArray := prog_10_method_17_code
def yX8_isWhole : MethodName := ⟨RX8, "isWhole", "()Z"⟩
abbrev cX8_count : ByteArray := prog_10_method_18_code
def yX8_count : MethodName := ⟨RX8, "count", "(I)I"⟩
abbrev cX8_unfold : ByteArray := prog_10_method_19_code
def yX8_unfold : MethodName := ⟨RX8, "unfold", "(I)V"⟩
abbrev cX8_lowest : ByteArray := prog_10_method_20_code
def yX8_lowest : MethodName := ⟨RX8, "lowest", "(I)I"⟩
abbrev cX8_highest : ByteArray := prog_10_method_21_code
def yX8_highest : MethodName := ⟨RX8, "highest", "(I)I"⟩
abbrev cX8_earns : ByteArray := prog_10_method_22_code
def yX8_earns : MethodName := ⟨RX8, "earns", "(I)I"⟩
abbrev cX8_comes : ByteArray := prog_10_method_23_code
def yX8_comes : MethodName := ⟨RX8, "comes", "(I)I"⟩
abbrev cX8_firstLets : ByteArray := prog_10_method_24_code
def yX8_firstLets : MethodName := ⟨RX8, "firstLets", "()V"⟩
abbrev cX8_nextLets : ByteArray := prog_10_method_25_code
def yX8_nextLets : MethodName := ⟨RX8, "nextLets", "()Z"⟩
abbrev cX8_endOf : ByteArray := prog_10_method_26_code
def yX8_endOf : MethodName := ⟨RX8, "endOf", "(I)I"⟩
abbrev cX8_prepare : ByteArray := prog_10_method_27_code
def yX8_prepare : MethodName := ⟨RX8, "prepare", "()V"⟩
abbrev cX8_work : ByteArray := prog_10_method_28_code
def yX8_work : MethodName := ⟨RX8, "work", "(I)V"⟩
abbrev cX8_spread : ByteArray := prog_10_method_29_code
def yX8_spread : MethodName := ⟨RX8, "spread", "(II)V"⟩
abbrev cX8_scale : ByteArray := prog_10_method_30_code
def yX8_scale : MethodName := ⟨RX8, "scale", "(I)J"⟩
abbrev cX8_settle : ByteArray := prog_10_method_31_code
def yX8_settle : MethodName := ⟨RX8, "settle", "(II)V"⟩
abbrev cX8_worthOf : ByteArray := prog_10_method_32_code
def yX8_worthOf : MethodName := ⟨RX8, "worthOf", "(II)J"⟩
abbrev cX8_worth : ByteArray := prog_10_method_33_code
def yX8_worth : MethodName := ⟨RX8, "worth", "(II)J"⟩
abbrev cX8_bestLet : ByteArray := prog_10_method_34_code
def yX8_bestLet : MethodName := ⟨RX8, "bestLet", "(II)V"⟩
abbrev cX8_policy : ByteArray := prog_10_method_35_code
def yX8_policy : MethodName := ⟨RX8, "policy", "(III)I"⟩
abbrev cX8_unit : ByteArray := prog_10_method_36_code
def yX8_unit : MethodName := ⟨RX8, "unit", "(I)I"⟩
abbrev cX8_water : ByteArray := prog_10_method_37_code
def yX8_water : MethodName := ⟨RX8, "water", "(III)J"⟩
abbrev cX8_needs : ByteArray := prog_10_method_38_code
def yX8_needs : MethodName := ⟨RX8, "needs", "(IJ)I"⟩
abbrev cX8_rule : ByteArray := prog_10_method_39_code
def yX8_rule : MethodName := ⟨RX8, "rule", "(III)I"⟩
abbrev cX8_ruledLet : ByteArray := prog_10_method_40_code
def yX8_ruledLet : MethodName := ⟨RX8, "ruledLet", "()V"⟩
abbrev cX8_walk : ByteArray := prog_10_method_41_code
def yX8_walk : MethodName := ⟨RX8, "walk", "(II)V"⟩
abbrev cX8_mean : ByteArray := prog_10_method_42_code
def yX8_mean : MethodName := ⟨RX8, "mean", "(II)J"⟩
abbrev cX8_worst : ByteArray := prog_10_method_43_code
def yX8_worst : MethodName := ⟨RX8, "worst", "(II)J"⟩
abbrev cX8_lack : ByteArray := prog_10_method_44_code
def yX8_lack : MethodName := ⟨RX8, "lack", "(II)I"⟩
abbrev cX8_flood : ByteArray := prog_10_method_45_code
def yX8_flood : MethodName := ⟨RX8, "flood", "(IIII)I"⟩
abbrev cX8_cases : ByteArray := prog_10_method_46_code
def yX8_cases : MethodName := ⟨RX8, "cases", "(I)I"⟩
abbrev cX8_begin : ByteArray := prog_10_method_47_code
def yX8_begin : MethodName := ⟨RX8, "begin", "(I)I"⟩
abbrev cX8_child : ByteArray := prog_10_method_48_code
def yX8_child : MethodName := ⟨RX8, "child", "(II)I"⟩
abbrev cX8_refused : ByteArray := prog_10_method_49_code
def yX8_refused : MethodName := ⟨RX8, "refused", "()I"⟩
abbrev cX8_goes : ByteArray := prog_10_method_50_code
def yX8_goes : MethodName := ⟨RX8, "goes", "(I)I"⟩
abbrev cX8_week : ByteArray := prog_10_method_51_code
def yX8_week : MethodName := ⟨RX8, "week", "(II)I"⟩
abbrev cX8_best : ByteArray := prog_10_method_52_code
def yX8_best : MethodName := ⟨RX8, "best", "(I)I"⟩
abbrev cX8_ruled : ByteArray := prog_10_method_53_code
def yX8_ruled : MethodName := ⟨RX8, "ruled", "(I)I"⟩
abbrev cX8_undo : ByteArray := prog_10_method_54_code
def yX8_undo : MethodName := ⟨RX8, "undo", "()I"⟩
abbrev cX8_stop : ByteArray := prog_10_method_55_code
def yX8_stop : MethodName := ⟨RX8, "stop", "()I"⟩
abbrev cX8_now : ByteArray := prog_10_method_56_code
def yX8_now : MethodName := ⟨RX8, "now", "(I)I"⟩
def RJ9 : String := "java/lang/Math"
def TJ9 : u_T := fun k => match k with
  | _ => ("", "", "", false)
def tyJ9 : Nat → FieldType := fun k => match k with
  | _ => .int
abbrev wsJ90 : List Cond := u_ws RJ9 TJ9 0
theorem nmJ9 : ∀ a, a < 0 → ∀ b, b < 0 → a ≠ b → (TJ9 a).2.1 ≠ (TJ9 b).2.1 := by decide +kernel
theorem tyJ9_ok : ∀ k, k < 0 → parseFieldDescriptor (TJ9 k).2.2.1 = some (tyJ9 k) := by decide +kernel
abbrev cJ9_max_7cf53 : ByteArray := prog_11_method_65_code
def yJ9_max_7cf53 : MethodName := ⟨RJ9, "max", "(II)I"⟩
abbrev cJ9_min_7cf53 : ByteArray := prog_11_method_69_code
def yJ9_min_7cf53 : MethodName := ⟨RJ9, "min", "(II)I"⟩
def RJ7 : String := "java/util/Arrays"
def TJ7 : u_T := fun k => match k with
  | _ => ("", "", "", false)
def tyJ7 : Nat → FieldType := fun k => match k with
  | _ => .int
abbrev wsJ70 : List Cond := u_ws RJ7 TJ7 0
theorem nmJ7 : ∀ a, a < 0 → ∀ b, b < 0 → a ≠ b → (TJ7 a).2.1 ≠ (TJ7 b).2.1 := by decide +kernel
theorem tyJ7_ok : ∀ k, k < 0 → parseFieldDescriptor (TJ7 k).2.2.1 = some (tyJ7 k) := by decide +kernel
abbrev cJ7_fill_d0a16 : ByteArray := prog_12_method_101_code
def yJ7_fill_d0a16 : MethodName := ⟨RJ7, "fill", "([JJ)V"⟩
abbrev cJ7_fill_53178 : ByteArray := prog_12_method_103_code
def yJ7_fill_53178 : MethodName := ⟨RJ7, "fill", "([II)V"⟩
def RL : String := "LakeChainLaw"
abbrev cL_law : ByteArray := code
def yL_law : MethodName := ⟨RL, "law", "([I)Z"⟩
abbrev vwCl : List vw_C := [(RX0, TX0, 9), (RX1, TX1, 16), (RX2, TX2, 8), (RX3, TX3, 5), (RX4, TX4, 4), (RX5, TX5, 2), (RX6, TX6, 4), (RX7, TX7, 5), (RX8, TX8, 40)]
end
section
theorem dX0_init_0 : decode cX0_init 0 = .ok (.aload_n 0, 1) := by decide +kernel
theorem dX0_init_1 : decode cX0_init 1 = .ok (.invokespecial 3, 3) := by decide +kernel
theorem dX0_init_4 : decode cX0_init 4 = .ok (.aload_n 0, 1) := by decide +kernel
theorem dX0_init_5 : decode cX0_init 5 = .ok (.bipush 31, 2) := by decide +kernel
theorem dX0_init_7 : decode cX0_init 7 = .ok (.newarray .int, 2) := by decide +kernel
theorem dX0_init_9 : decode cX0_init 9 = .ok (.putfield 9, 3) := by decide +kernel
theorem dX0_init_12 : decode cX0_init 12 = .ok (.aload_n 0, 1) := by decide +kernel
theorem dX0_init_13 : decode cX0_init 13 = .ok (.bipush 30, 2) := by decide +kernel
theorem dX0_init_15 : decode cX0_init 15 = .ok (.putfield 15, 3) := by decide +kernel
theorem dX0_init_18 : decode cX0_init 18 = .ok (.aload_n 0, 1) := by decide +kernel
theorem dX0_init_19 : decode cX0_init 19 = .ok (.iconst 1, 1) := by decide +kernel
theorem dX0_init_20 : decode cX0_init 20 = .ok (.putfield 19, 3) := by decide +kernel
theorem dX0_init_23 : decode cX0_init 23 = .ok (.aload_n 0, 1) := by decide +kernel
theorem dX0_init_24 : decode cX0_init 24 = .ok (.getfield 9, 3) := by decide +kernel
theorem dX0_init_27 : decode cX0_init 27 = .ok (.iconst 1, 1) := by decide +kernel
theorem dX0_init_28 : decode cX0_init 28 = .ok (.invokestatic 22, 3) := by decide +kernel
theorem dX0_init_31 : decode cX0_init 31 = .ok (.return_, 1) := by decide +kernel
theorem dX0_headAt_0 : decode cX0_headAt 0 = .ok (.iload_n 1, 1) := by decide +kernel
theorem dX0_headAt_1 : decode cX0_headAt 1 = .ok (.ifCond .lt 21, 3) := by decide +kernel
theorem dX0_headAt_4 : decode cX0_headAt 4 = .ok (.iload_n 1, 1) := by decide +kernel
theorem dX0_headAt_5 : decode cX0_headAt 5 = .ok (.aload_n 0, 1) := by decide +kernel
theorem dX0_headAt_6 : decode cX0_headAt 6 = .ok (.getfield 9, 3) := by decide +kernel
theorem dX0_headAt_9 : decode cX0_headAt 9 = .ok (.arraylength, 1) := by decide +kernel
theorem dX0_headAt_10 : decode cX0_headAt 10 = .ok (.if_icmp .ge 12, 3) := by decide +kernel
theorem dX0_headAt_13 : decode cX0_headAt 13 = .ok (.aload_n 0, 1) := by decide +kernel
theorem dX0_headAt_14 : decode cX0_headAt 14 = .ok (.getfield 9, 3) := by decide +kernel
theorem dX0_headAt_17 : decode cX0_headAt 17 = .ok (.iload_n 1, 1) := by decide +kernel
theorem dX0_headAt_18 : decode cX0_headAt 18 = .ok (.iaload, 1) := by decide +kernel
theorem dX0_headAt_19 : decode cX0_headAt 19 = .ok (.goto 4, 3) := by decide +kernel
theorem dX0_headAt_22 : decode cX0_headAt 22 = .ok (.iconst 0, 1) := by decide +kernel
theorem dX0_headAt_23 : decode cX0_headAt 23 = .ok (.ireturn, 1) := by decide +kernel
theorem dX0_takesHead_0 : decode cX0_takesHead 0 = .ok (.iload_n 1, 1) := by decide +kernel
theorem dX0_takesHead_1 : decode cX0_takesHead 1 = .ok (.ifCond .le 16, 3) := by decide +kernel
theorem dX0_takesHead_4 : decode cX0_takesHead 4 = .ok (.aload_n 0, 1) := by decide +kernel
theorem dX0_takesHead_5 : decode cX0_takesHead 5 = .ok (.iload_n 1, 1) := by decide +kernel
theorem dX0_takesHead_6 : decode cX0_takesHead 6 = .ok (.iconst 1, 1) := by decide +kernel
theorem dX0_takesHead_7 : decode cX0_takesHead 7 = .ok (.isub, 1) := by decide +kernel
theorem dX0_takesHead_8 : decode cX0_takesHead 8 = .ok (.invokevirtual 28, 3) := by decide +kernel
theorem dX0_takesHead_11 : decode cX0_takesHead 11 = .ok (.iload_n 2, 1) := by decide +kernel
theorem dX0_takesHead_12 : decode cX0_takesHead 12 = .ok (.if_icmp .le 5, 3) := by decide +kernel
theorem dX0_takesHead_15 : decode cX0_takesHead 15 = .ok (.iconst 0, 1) := by decide +kernel
theorem dX0_takesHead_16 : decode cX0_takesHead 16 = .ok (.ireturn, 1) := by decide +kernel
theorem dX0_takesHead_17 : decode cX0_takesHead 17 = .ok (.iload_n 1, 1) := by decide +kernel
theorem dX0_takesHead_18 : decode cX0_takesHead 18 = .ok (.aload_n 0, 1) := by decide +kernel
theorem dX0_takesHead_19 : decode cX0_takesHead 19 = .ok (.getfield 32, 3) := by decide +kernel
theorem dX0_takesHead_22 : decode cX0_takesHead 22 = .ok (.if_icmp .ge 14, 3) := by decide +kernel
theorem dX0_takesHead_25 : decode cX0_takesHead 25 = .ok (.aload_n 0, 1) := by decide +kernel
theorem dX0_takesHead_26 : decode cX0_takesHead 26 = .ok (.iload_n 1, 1) := by decide +kernel
theorem dX0_takesHead_27 : decode cX0_takesHead 27 = .ok (.iconst 1, 1) := by decide +kernel
theorem dX0_takesHead_28 : decode cX0_takesHead 28 = .ok (.iadd, 1) := by decide +kernel
theorem dX0_takesHead_29 : decode cX0_takesHead 29 = .ok (.invokevirtual 28, 3) := by decide +kernel
theorem dX0_takesHead_32 : decode cX0_takesHead 32 = .ok (.iload_n 2, 1) := by decide +kernel
theorem dX0_takesHead_33 : decode cX0_takesHead 33 = .ok (.if_icmp .lt 7, 3) := by decide +kernel
theorem dX0_takesHead_36 : decode cX0_takesHead 36 = .ok (.iconst 1, 1) := by decide +kernel
theorem dX0_takesHead_37 : decode cX0_takesHead 37 = .ok (.goto 4, 3) := by decide +kernel
theorem dX0_takesHead_40 : decode cX0_takesHead 40 = .ok (.iconst 0, 1) := by decide +kernel
theorem dX0_takesHead_41 : decode cX0_takesHead 41 = .ok (.ireturn, 1) := by decide +kernel
theorem dX0_leastLet_0 : decode cX0_leastLet 0 = .ok (.aload_n 0, 1) := by decide +kernel
theorem dX0_leastLet_1 : decode cX0_leastLet 1 = .ok (.getfield 35, 3) := by decide +kernel
theorem dX0_leastLet_4 : decode cX0_leastLet 4 = .ok (.iload_n 1, 1) := by decide +kernel
theorem dX0_leastLet_5 : decode cX0_leastLet 5 = .ok (.invokestatic 38, 3) := by decide +kernel
theorem dX0_leastLet_8 : decode cX0_leastLet 8 = .ok (.ireturn, 1) := by decide +kernel
theorem dX0_mostLet_0 : decode cX0_mostLet 0 = .ok (.aload_n 0, 1) := by decide +kernel
theorem dX0_mostLet_1 : decode cX0_mostLet 1 = .ok (.iload_n 1, 1) := by decide +kernel
theorem dX0_mostLet_2 : decode cX0_mostLet 2 = .ok (.invokevirtual 44, 3) := by decide +kernel
theorem dX0_mostLet_5 : decode cX0_mostLet 5 = .ok (.aload_n 0, 1) := by decide +kernel
theorem dX0_mostLet_6 : decode cX0_mostLet 6 = .ok (.getfield 47, 3) := by decide +kernel
theorem dX0_mostLet_9 : decode cX0_mostLet 9 = .ok (.iload_n 1, 1) := by decide +kernel
theorem dX0_mostLet_10 : decode cX0_mostLet 10 = .ok (.aload_n 0, 1) := by decide +kernel
theorem dX0_mostLet_11 : decode cX0_mostLet 11 = .ok (.getfield 50, 3) := by decide +kernel
theorem dX0_mostLet_14 : decode cX0_mostLet 14 = .ok (.isub, 1) := by decide +kernel
theorem dX0_mostLet_15 : decode cX0_mostLet 15 = .ok (.invokestatic 38, 3) := by decide +kernel
theorem dX0_mostLet_18 : decode cX0_mostLet 18 = .ok (.invokestatic 53, 3) := by decide +kernel
theorem dX0_mostLet_21 : decode cX0_mostLet 21 = .ok (.ireturn, 1) := by decide +kernel
theorem dX0_ruleLet_0 : decode cX0_ruleLet 0 = .ok (.iload_n 1, 1) := by decide +kernel
theorem dX0_ruleLet_1 : decode cX0_ruleLet 1 = .ok (.aload_n 0, 1) := by decide +kernel
theorem dX0_ruleLet_2 : decode cX0_ruleLet 2 = .ok (.getfield 56, 3) := by decide +kernel
theorem dX0_ruleLet_5 : decode cX0_ruleLet 5 = .ok (.isub, 1) := by decide +kernel
theorem dX0_ruleLet_6 : decode cX0_ruleLet 6 = .ok (.iconst 0, 1) := by decide +kernel
theorem dX0_ruleLet_7 : decode cX0_ruleLet 7 = .ok (.invokestatic 53, 3) := by decide +kernel
theorem dX0_ruleLet_10 : decode cX0_ruleLet 10 = .ok (.aload_n 0, 1) := by decide +kernel
theorem dX0_ruleLet_11 : decode cX0_ruleLet 11 = .ok (.getfield 15, 3) := by decide +kernel
theorem dX0_ruleLet_14 : decode cX0_ruleLet 14 = .ok (.invokestatic 38, 3) := by decide +kernel
theorem dX0_ruleLet_17 : decode cX0_ruleLet 17 = .ok (.istore_n 2, 1) := by decide +kernel
theorem dX0_ruleLet_18 : decode cX0_ruleLet 18 = .ok (.aload_n 0, 1) := by decide +kernel
theorem dX0_ruleLet_19 : decode cX0_ruleLet 19 = .ok (.iload_n 1, 1) := by decide +kernel
theorem dX0_ruleLet_20 : decode cX0_ruleLet 20 = .ok (.invokevirtual 44, 3) := by decide +kernel
theorem dX0_ruleLet_23 : decode cX0_ruleLet 23 = .ok (.aload_n 0, 1) := by decide +kernel
theorem dX0_ruleLet_24 : decode cX0_ruleLet 24 = .ok (.iload_n 1, 1) := by decide +kernel
theorem dX0_ruleLet_25 : decode cX0_ruleLet 25 = .ok (.invokevirtual 59, 3) := by decide +kernel
theorem dX0_ruleLet_28 : decode cX0_ruleLet 28 = .ok (.iload_n 2, 1) := by decide +kernel
theorem dX0_ruleLet_29 : decode cX0_ruleLet 29 = .ok (.invokestatic 38, 3) := by decide +kernel
theorem dX0_ruleLet_32 : decode cX0_ruleLet 32 = .ok (.invokestatic 53, 3) := by decide +kernel
theorem dX0_ruleLet_35 : decode cX0_ruleLet 35 = .ok (.ireturn, 1) := by decide +kernel
theorem dX1_init_0 : decode cX1_init 0 = .ok (.aload_n 0, 1) := by decide +kernel
theorem dX1_init_1 : decode cX1_init 1 = .ok (.invokespecial 3, 3) := by decide +kernel
theorem dX1_init_4 : decode cX1_init 4 = .ok (.aload_n 0, 1) := by decide +kernel
theorem dX1_init_5 : decode cX1_init 5 = .ok (.iconst 3, 1) := by decide +kernel
theorem dX1_init_6 : decode cX1_init 6 = .ok (.newarray .int, 2) := by decide +kernel
theorem dX1_init_8 : decode cX1_init 8 = .ok (.putfield 9, 3) := by decide +kernel
theorem dX1_init_11 : decode cX1_init 11 = .ok (.aload_n 0, 1) := by decide +kernel
theorem dX1_init_12 : decode cX1_init 12 = .ok (.bipush 6, 2) := by decide +kernel
theorem dX1_init_14 : decode cX1_init 14 = .ok (.anewarray 10, 3) := by decide +kernel
theorem dX1_init_17 : decode cX1_init 17 = .ok (.putfield 15, 3) := by decide +kernel
theorem dX1_init_20 : decode cX1_init 20 = .ok (.aload_n 0, 1) := by decide +kernel
theorem dX1_init_21 : decode cX1_init 21 = .ok (.iconst (-1), 1) := by decide +kernel
theorem dX1_init_22 : decode cX1_init 22 = .ok (.putfield 19, 3) := by decide +kernel
theorem dX1_init_25 : decode cX1_init 25 = .ok (.aload_n 0, 1) := by decide +kernel
theorem dX1_init_26 : decode cX1_init 26 = .ok (.iload_n 1, 1) := by decide +kernel
theorem dX1_init_27 : decode cX1_init 27 = .ok (.putfield 23, 3) := by decide +kernel
theorem dX1_init_30 : decode cX1_init 30 = .ok (.return_, 1) := by decide +kernel
theorem dX1_childAt_0 : decode cX1_childAt 0 = .ok (.iload_n 1, 1) := by decide +kernel
theorem dX1_childAt_1 : decode cX1_childAt 1 = .ok (.ifCond .lt 29, 3) := by decide +kernel
theorem dX1_childAt_4 : decode cX1_childAt 4 = .ok (.iload_n 1, 1) := by decide +kernel
theorem dX1_childAt_5 : decode cX1_childAt 5 = .ok (.aload_n 0, 1) := by decide +kernel
theorem dX1_childAt_6 : decode cX1_childAt 6 = .ok (.getfield 26, 3) := by decide +kernel
theorem dX1_childAt_9 : decode cX1_childAt 9 = .ok (.if_icmp .ge 21, 3) := by decide +kernel
theorem dX1_childAt_12 : decode cX1_childAt 12 = .ok (.iload_n 1, 1) := by decide +kernel
theorem dX1_childAt_13 : decode cX1_childAt 13 = .ok (.aload_n 0, 1) := by decide +kernel
theorem dX1_childAt_14 : decode cX1_childAt 14 = .ok (.getfield 15, 3) := by decide +kernel
theorem dX1_childAt_17 : decode cX1_childAt 17 = .ok (.arraylength, 1) := by decide +kernel
theorem dX1_childAt_18 : decode cX1_childAt 18 = .ok (.if_icmp .ge 12, 3) := by decide +kernel
theorem dX1_childAt_21 : decode cX1_childAt 21 = .ok (.aload_n 0, 1) := by decide +kernel
theorem dX1_childAt_22 : decode cX1_childAt 22 = .ok (.getfield 15, 3) := by decide +kernel
theorem dX1_childAt_25 : decode cX1_childAt 25 = .ok (.iload_n 1, 1) := by decide +kernel
theorem dX1_childAt_26 : decode cX1_childAt 26 = .ok (.aaload, 1) := by decide +kernel
theorem dX1_childAt_27 : decode cX1_childAt 27 = .ok (.goto 4, 3) := by decide +kernel
theorem dX1_childAt_30 : decode cX1_childAt 30 = .ok (.aconst_null, 1) := by decide +kernel
theorem dX1_childAt_31 : decode cX1_childAt 31 = .ok (.areturn, 1) := by decide +kernel
theorem dX1_sumIn_0 : decode cX1_sumIn 0 = .ok (.iconst 0, 1) := by decide +kernel
theorem dX1_sumIn_1 : decode cX1_sumIn 1 = .ok (.istore_n 1, 1) := by decide +kernel
theorem dX1_sumIn_2 : decode cX1_sumIn 2 = .ok (.iconst 0, 1) := by decide +kernel
theorem dX1_sumIn_3 : decode cX1_sumIn 3 = .ok (.istore_n 2, 1) := by decide +kernel
theorem dX1_sumIn_4 : decode cX1_sumIn 4 = .ok (.iload_n 2, 1) := by decide +kernel
theorem dX1_sumIn_5 : decode cX1_sumIn 5 = .ok (.aload_n 0, 1) := by decide +kernel
theorem dX1_sumIn_6 : decode cX1_sumIn 6 = .ok (.getfield 9, 3) := by decide +kernel
theorem dX1_sumIn_9 : decode cX1_sumIn 9 = .ok (.arraylength, 1) := by decide +kernel
theorem dX1_sumIn_10 : decode cX1_sumIn 10 = .ok (.if_icmp .ge 18, 3) := by decide +kernel
theorem dX1_sumIn_13 : decode cX1_sumIn 13 = .ok (.iload_n 1, 1) := by decide +kernel
theorem dX1_sumIn_14 : decode cX1_sumIn 14 = .ok (.aload_n 0, 1) := by decide +kernel
theorem dX1_sumIn_15 : decode cX1_sumIn 15 = .ok (.getfield 9, 3) := by decide +kernel
theorem dX1_sumIn_18 : decode cX1_sumIn 18 = .ok (.iload_n 2, 1) := by decide +kernel
theorem dX1_sumIn_19 : decode cX1_sumIn 19 = .ok (.iaload, 1) := by decide +kernel
theorem dX1_sumIn_20 : decode cX1_sumIn 20 = .ok (.iadd, 1) := by decide +kernel
theorem dX1_sumIn_21 : decode cX1_sumIn 21 = .ok (.istore_n 1, 1) := by decide +kernel
theorem dX1_sumIn_22 : decode cX1_sumIn 22 = .ok (.iinc 2 1, 3) := by decide +kernel
theorem dX1_sumIn_25 : decode cX1_sumIn 25 = .ok (.goto (-21), 3) := by decide +kernel
theorem dX1_sumIn_28 : decode cX1_sumIn 28 = .ok (.iload_n 1, 1) := by decide +kernel
theorem dX1_sumIn_29 : decode cX1_sumIn 29 = .ok (.ireturn, 1) := by decide +kernel
theorem dX1_addChild_0 : decode cX1_addChild 0 = .ok (.aload_n 0, 1) := by decide +kernel
theorem dX1_addChild_1 : decode cX1_addChild 1 = .ok (.getfield 26, 3) := by decide +kernel
theorem dX1_addChild_4 : decode cX1_addChild 4 = .ok (.aload_n 0, 1) := by decide +kernel
theorem dX1_addChild_5 : decode cX1_addChild 5 = .ok (.getfield 15, 3) := by decide +kernel
theorem dX1_addChild_8 : decode cX1_addChild 8 = .ok (.arraylength, 1) := by decide +kernel
theorem dX1_addChild_9 : decode cX1_addChild 9 = .ok (.if_icmp .lt 4, 3) := by decide +kernel
theorem dX1_addChild_12 : decode cX1_addChild 12 = .ok (.return_, 1) := by decide +kernel
theorem dX1_addChild_13 : decode cX1_addChild 13 = .ok (.aload_n 0, 1) := by decide +kernel
theorem dX1_addChild_14 : decode cX1_addChild 14 = .ok (.getfield 15, 3) := by decide +kernel
theorem dX1_addChild_17 : decode cX1_addChild 17 = .ok (.aload_n 0, 1) := by decide +kernel
theorem dX1_addChild_18 : decode cX1_addChild 18 = .ok (.getfield 26, 3) := by decide +kernel
theorem dX1_addChild_21 : decode cX1_addChild 21 = .ok (.aload_n 1, 1) := by decide +kernel
theorem dX1_addChild_22 : decode cX1_addChild 22 = .ok (.aastore, 1) := by decide +kernel
theorem dX1_addChild_23 : decode cX1_addChild 23 = .ok (.aload_n 0, 1) := by decide +kernel
theorem dX1_addChild_24 : decode cX1_addChild 24 = .ok (.dup, 1) := by decide +kernel
theorem dX1_addChild_25 : decode cX1_addChild 25 = .ok (.getfield 26, 3) := by decide +kernel
theorem dX1_addChild_28 : decode cX1_addChild 28 = .ok (.iconst 1, 1) := by decide +kernel
theorem dX1_addChild_29 : decode cX1_addChild 29 = .ok (.iadd, 1) := by decide +kernel
theorem dX1_addChild_30 : decode cX1_addChild 30 = .ok (.putfield 26, 3) := by decide +kernel
theorem dX1_addChild_33 : decode cX1_addChild 33 = .ok (.aload_n 0, 1) := by decide +kernel
theorem dX1_addChild_34 : decode cX1_addChild 34 = .ok (.dup, 1) := by decide +kernel
theorem dX1_addChild_35 : decode cX1_addChild 35 = .ok (.getfield 29, 3) := by decide +kernel
theorem dX1_addChild_38 : decode cX1_addChild 38 = .ok (.aload_n 1, 1) := by decide +kernel
theorem dX1_addChild_39 : decode cX1_addChild 39 = .ok (.getfield 32, 3) := by decide +kernel
theorem dX1_addChild_42 : decode cX1_addChild 42 = .ok (.iadd, 1) := by decide +kernel
theorem dX1_addChild_43 : decode cX1_addChild 43 = .ok (.putfield 29, 3) := by decide +kernel
theorem dX1_addChild_46 : decode cX1_addChild 46 = .ok (.return_, 1) := by decide +kernel
theorem dX1_dropChildren_0 : decode cX1_dropChildren 0 = .ok (.aload_n 0, 1) := by decide +kernel
theorem dX1_dropChildren_1 : decode cX1_dropChildren 1 = .ok (.iconst 0, 1) := by decide +kernel
theorem dX1_dropChildren_2 : decode cX1_dropChildren 2 = .ok (.putfield 26, 3) := by decide +kernel
theorem dX1_dropChildren_5 : decode cX1_dropChildren 5 = .ok (.aload_n 0, 1) := by decide +kernel
theorem dX1_dropChildren_6 : decode cX1_dropChildren 6 = .ok (.iconst 0, 1) := by decide +kernel
theorem dX1_dropChildren_7 : decode cX1_dropChildren 7 = .ok (.putfield 29, 3) := by decide +kernel
theorem dX1_dropChildren_10 : decode cX1_dropChildren 10 = .ok (.return_, 1) := by decide +kernel
theorem dX2_init_0 : decode cX2_init 0 = .ok (.aload_n 0, 1) := by decide +kernel
theorem dX2_init_1 : decode cX2_init 1 = .ok (.invokespecial 3, 3) := by decide +kernel
theorem dX2_init_4 : decode cX2_init 4 = .ok (.aload_n 0, 1) := by decide +kernel
theorem dX2_init_5 : decode cX2_init 5 = .ok (.bipush 11, 2) := by decide +kernel
theorem dX2_init_7 : decode cX2_init 7 = .ok (.newarray .int, 2) := by decide +kernel
theorem dX2_init_9 : decode cX2_init 9 = .ok (.putfield 9, 3) := by decide +kernel
theorem dX2_init_12 : decode cX2_init 12 = .ok (.aload_n 0, 1) := by decide +kernel
theorem dX2_init_13 : decode cX2_init 13 = .ok (.bipush 11, 2) := by decide +kernel
theorem dX2_init_15 : decode cX2_init 15 = .ok (.newarray .int, 2) := by decide +kernel
theorem dX2_init_17 : decode cX2_init 17 = .ok (.putfield 15, 3) := by decide +kernel
theorem dX2_init_20 : decode cX2_init 20 = .ok (.aload_n 0, 1) := by decide +kernel
theorem dX2_init_21 : decode cX2_init 21 = .ok (.bipush 11, 2) := by decide +kernel
theorem dX2_init_23 : decode cX2_init 23 = .ok (.newarray .int, 2) := by decide +kernel
theorem dX2_init_25 : decode cX2_init 25 = .ok (.putfield 18, 3) := by decide +kernel
theorem dX2_init_28 : decode cX2_init 28 = .ok (.aload_n 0, 1) := by decide +kernel
theorem dX2_init_29 : decode cX2_init 29 = .ok (.bipush 11, 2) := by decide +kernel
theorem dX2_init_31 : decode cX2_init 31 = .ok (.newarray .int, 2) := by decide +kernel
theorem dX2_init_33 : decode cX2_init 33 = .ok (.putfield 21, 3) := by decide +kernel
theorem dX2_init_36 : decode cX2_init 36 = .ok (.aload_n 0, 1) := by decide +kernel
theorem dX2_init_37 : decode cX2_init 37 = .ok (.bipush 11, 2) := by decide +kernel
theorem dX2_init_39 : decode cX2_init 39 = .ok (.newarray .int, 2) := by decide +kernel
theorem dX2_init_41 : decode cX2_init 41 = .ok (.putfield 24, 3) := by decide +kernel
theorem dX2_init_44 : decode cX2_init 44 = .ok (.return_, 1) := by decide +kernel
theorem dX2_startAt_0 : decode cX2_startAt 0 = .ok (.aload_n 0, 1) := by decide +kernel
theorem dX2_startAt_1 : decode cX2_startAt 1 = .ok (.iconst 1, 1) := by decide +kernel
theorem dX2_startAt_2 : decode cX2_startAt 2 = .ok (.putfield 27, 3) := by decide +kernel
theorem dX2_startAt_5 : decode cX2_startAt 5 = .ok (.aload_n 0, 1) := by decide +kernel
theorem dX2_startAt_6 : decode cX2_startAt 6 = .ok (.iconst 0, 1) := by decide +kernel
theorem dX2_startAt_7 : decode cX2_startAt 7 = .ok (.putfield 31, 3) := by decide +kernel
theorem dX2_startAt_10 : decode cX2_startAt 10 = .ok (.aload_n 0, 1) := by decide +kernel
theorem dX2_startAt_11 : decode cX2_startAt 11 = .ok (.aload_n 1, 1) := by decide +kernel
theorem dX2_startAt_12 : decode cX2_startAt 12 = .ok (.putfield 35, 3) := by decide +kernel
theorem dX2_startAt_15 : decode cX2_startAt 15 = .ok (.aload_n 0, 1) := by decide +kernel
theorem dX2_startAt_16 : decode cX2_startAt 16 = .ok (.getfield 9, 3) := by decide +kernel
theorem dX2_startAt_19 : decode cX2_startAt 19 = .ok (.iconst 0, 1) := by decide +kernel
theorem dX2_startAt_20 : decode cX2_startAt 20 = .ok (.iload_n 2, 1) := by decide +kernel
theorem dX2_startAt_21 : decode cX2_startAt 21 = .ok (.iastore, 1) := by decide +kernel
theorem dX2_startAt_22 : decode cX2_startAt 22 = .ok (.return_, 1) := by decide +kernel
theorem dX2_stateNow_0 : decode cX2_stateNow 0 = .ok (.aload_n 0, 1) := by decide +kernel
theorem dX2_stateNow_1 : decode cX2_stateNow 1 = .ok (.getfield 9, 3) := by decide +kernel
theorem dX2_stateNow_4 : decode cX2_stateNow 4 = .ok (.aload_n 0, 1) := by decide +kernel
theorem dX2_stateNow_5 : decode cX2_stateNow 5 = .ok (.getfield 31, 3) := by decide +kernel
theorem dX2_stateNow_8 : decode cX2_stateNow 8 = .ok (.iaload, 1) := by decide +kernel
theorem dX2_stateNow_9 : decode cX2_stateNow 9 = .ok (.ireturn, 1) := by decide +kernel
theorem dX2_goOn_0 : decode cX2_goOn 0 = .ok (.aload_n 0, 1) := by decide +kernel
theorem dX2_goOn_1 : decode cX2_goOn 1 = .ok (.getfield 31, 3) := by decide +kernel
theorem dX2_goOn_4 : decode cX2_goOn 4 = .ok (.bipush 10, 2) := by decide +kernel
theorem dX2_goOn_6 : decode cX2_goOn 6 = .ok (.if_icmp .lt 4, 3) := by decide +kernel
theorem dX2_goOn_9 : decode cX2_goOn 9 = .ok (.return_, 1) := by decide +kernel
theorem dX2_goOn_10 : decode cX2_goOn 10 = .ok (.aload_n 0, 1) := by decide +kernel
theorem dX2_goOn_11 : decode cX2_goOn 11 = .ok (.getfield 31, 3) := by decide +kernel
theorem dX2_goOn_14 : decode cX2_goOn 14 = .ok (.istore 6, 2) := by decide +kernel
theorem dX2_goOn_16 : decode cX2_goOn 16 = .ok (.aload_n 0, 1) := by decide +kernel
theorem dX2_goOn_17 : decode cX2_goOn 17 = .ok (.dup, 1) := by decide +kernel
theorem dX2_goOn_18 : decode cX2_goOn 18 = .ok (.getfield 31, 3) := by decide +kernel
theorem dX2_goOn_21 : decode cX2_goOn 21 = .ok (.iconst 1, 1) := by decide +kernel
theorem dX2_goOn_22 : decode cX2_goOn 22 = .ok (.iadd, 1) := by decide +kernel
theorem dX2_goOn_23 : decode cX2_goOn 23 = .ok (.putfield 31, 3) := by decide +kernel
theorem dX2_goOn_26 : decode cX2_goOn 26 = .ok (.aload_n 0, 1) := by decide +kernel
theorem dX2_goOn_27 : decode cX2_goOn 27 = .ok (.aload_n 1, 1) := by decide +kernel
theorem dX2_goOn_28 : decode cX2_goOn 28 = .ok (.putfield 35, 3) := by decide +kernel
theorem dX2_goOn_31 : decode cX2_goOn 31 = .ok (.aload_n 0, 1) := by decide +kernel
theorem dX2_goOn_32 : decode cX2_goOn 32 = .ok (.getfield 9, 3) := by decide +kernel
theorem dX2_goOn_35 : decode cX2_goOn 35 = .ok (.aload_n 0, 1) := by decide +kernel
theorem dX2_goOn_36 : decode cX2_goOn 36 = .ok (.getfield 31, 3) := by decide +kernel
theorem dX2_goOn_39 : decode cX2_goOn 39 = .ok (.iload_n 2, 1) := by decide +kernel
theorem dX2_goOn_40 : decode cX2_goOn 40 = .ok (.iastore, 1) := by decide +kernel
theorem dX2_goOn_41 : decode cX2_goOn 41 = .ok (.aload_n 0, 1) := by decide +kernel
theorem dX2_goOn_42 : decode cX2_goOn 42 = .ok (.getfield 15, 3) := by decide +kernel
theorem dX2_goOn_45 : decode cX2_goOn 45 = .ok (.aload_n 0, 1) := by decide +kernel
theorem dX2_goOn_46 : decode cX2_goOn 46 = .ok (.getfield 31, 3) := by decide +kernel
theorem dX2_goOn_49 : decode cX2_goOn 49 = .ok (.aload_n 0, 1) := by decide +kernel
theorem dX2_goOn_50 : decode cX2_goOn 50 = .ok (.getfield 15, 3) := by decide +kernel
theorem dX2_goOn_53 : decode cX2_goOn 53 = .ok (.iload 6, 2) := by decide +kernel
theorem dX2_goOn_55 : decode cX2_goOn 55 = .ok (.iaload, 1) := by decide +kernel
theorem dX2_goOn_56 : decode cX2_goOn 56 = .ok (.iload_n 3, 1) := by decide +kernel
theorem dX2_goOn_57 : decode cX2_goOn 57 = .ok (.iadd, 1) := by decide +kernel
theorem dX2_goOn_58 : decode cX2_goOn 58 = .ok (.iastore, 1) := by decide +kernel
theorem dX2_goOn_59 : decode cX2_goOn 59 = .ok (.aload_n 0, 1) := by decide +kernel
theorem dX2_goOn_60 : decode cX2_goOn 60 = .ok (.getfield 18, 3) := by decide +kernel
theorem dX2_goOn_63 : decode cX2_goOn 63 = .ok (.aload_n 0, 1) := by decide +kernel
theorem dX2_goOn_64 : decode cX2_goOn 64 = .ok (.getfield 31, 3) := by decide +kernel
theorem dX2_goOn_67 : decode cX2_goOn 67 = .ok (.aload_n 0, 1) := by decide +kernel
theorem dX2_goOn_68 : decode cX2_goOn 68 = .ok (.getfield 18, 3) := by decide +kernel
theorem dX2_goOn_71 : decode cX2_goOn 71 = .ok (.iload 6, 2) := by decide +kernel
theorem dX2_goOn_73 : decode cX2_goOn 73 = .ok (.iaload, 1) := by decide +kernel
theorem dX2_goOn_74 : decode cX2_goOn 74 = .ok (.iload 4, 2) := by decide +kernel
theorem dX2_goOn_76 : decode cX2_goOn 76 = .ok (.iadd, 1) := by decide +kernel
theorem dX2_goOn_77 : decode cX2_goOn 77 = .ok (.iastore, 1) := by decide +kernel
theorem dX2_goOn_78 : decode cX2_goOn 78 = .ok (.aload_n 0, 1) := by decide +kernel
theorem dX2_goOn_79 : decode cX2_goOn 79 = .ok (.getfield 21, 3) := by decide +kernel
theorem dX2_goOn_82 : decode cX2_goOn 82 = .ok (.aload_n 0, 1) := by decide +kernel
theorem dX2_goOn_83 : decode cX2_goOn 83 = .ok (.getfield 31, 3) := by decide +kernel
theorem dX2_goOn_86 : decode cX2_goOn 86 = .ok (.aload_n 0, 1) := by decide +kernel
theorem dX2_goOn_87 : decode cX2_goOn 87 = .ok (.getfield 21, 3) := by decide +kernel
theorem dX2_goOn_90 : decode cX2_goOn 90 = .ok (.iload 6, 2) := by decide +kernel
theorem dX2_goOn_92 : decode cX2_goOn 92 = .ok (.iaload, 1) := by decide +kernel
theorem dX2_goOn_93 : decode cX2_goOn 93 = .ok (.iload 5, 2) := by decide +kernel
theorem dX2_goOn_95 : decode cX2_goOn 95 = .ok (.iadd, 1) := by decide +kernel
theorem dX2_goOn_96 : decode cX2_goOn 96 = .ok (.iastore, 1) := by decide +kernel
theorem dX2_goOn_97 : decode cX2_goOn 97 = .ok (.aload_n 0, 1) := by decide +kernel
theorem dX2_goOn_98 : decode cX2_goOn 98 = .ok (.getfield 24, 3) := by decide +kernel
theorem dX2_goOn_101 : decode cX2_goOn 101 = .ok (.aload_n 0, 1) := by decide +kernel
theorem dX2_goOn_102 : decode cX2_goOn 102 = .ok (.getfield 31, 3) := by decide +kernel
theorem dX2_goOn_105 : decode cX2_goOn 105 = .ok (.aload_n 0, 1) := by decide +kernel
theorem dX2_goOn_106 : decode cX2_goOn 106 = .ok (.getfield 24, 3) := by decide +kernel
theorem dX2_goOn_109 : decode cX2_goOn 109 = .ok (.iload 6, 2) := by decide +kernel
theorem dX2_goOn_111 : decode cX2_goOn 111 = .ok (.iaload, 1) := by decide +kernel
theorem dX2_goOn_112 : decode cX2_goOn 112 = .ok (.aload_n 1, 1) := by decide +kernel
theorem dX2_goOn_113 : decode cX2_goOn 113 = .ok (.invokevirtual 39, 3) := by decide +kernel
theorem dX2_goOn_116 : decode cX2_goOn 116 = .ok (.iadd, 1) := by decide +kernel
theorem dX2_goOn_117 : decode cX2_goOn 117 = .ok (.iastore, 1) := by decide +kernel
theorem dX2_goOn_118 : decode cX2_goOn 118 = .ok (.return_, 1) := by decide +kernel
theorem dX3_init_0 : decode cX3_init 0 = .ok (.aload_n 0, 1) := by decide +kernel
theorem dX3_init_1 : decode cX3_init 1 = .ok (.invokespecial 3, 3) := by decide +kernel
theorem dX3_init_4 : decode cX3_init 4 = .ok (.aload_n 0, 1) := by decide +kernel
theorem dX3_init_5 : decode cX3_init 5 = .ok (.bipush 81, 2) := by decide +kernel
theorem dX3_init_7 : decode cX3_init 7 = .ok (.anewarray 9, 3) := by decide +kernel
theorem dX3_init_10 : decode cX3_init 10 = .ok (.putfield 11, 3) := by decide +kernel
theorem dX3_init_13 : decode cX3_init 13 = .ok (.aload_n 0, 1) := by decide +kernel
theorem dX3_init_14 : decode cX3_init 14 = .ok (.bipush 10, 2) := by decide +kernel
theorem dX3_init_16 : decode cX3_init 16 = .ok (.newarray .int, 2) := by decide +kernel
theorem dX3_init_18 : decode cX3_init 18 = .ok (.putfield 17, 3) := by decide +kernel
theorem dX3_init_21 : decode cX3_init 21 = .ok (.aload_n 0, 1) := by decide +kernel
theorem dX3_init_22 : decode cX3_init 22 = .ok (.iconst 1, 1) := by decide +kernel
theorem dX3_init_23 : decode cX3_init 23 = .ok (.putfield 21, 3) := by decide +kernel
theorem dX3_init_26 : decode cX3_init 26 = .ok (.aload_n 0, 1) := by decide +kernel
theorem dX3_init_27 : decode cX3_init 27 = .ok (.iconst 1, 1) := by decide +kernel
theorem dX3_init_28 : decode cX3_init 28 = .ok (.putfield 25, 3) := by decide +kernel
theorem dX3_init_31 : decode cX3_init 31 = .ok (.aload_n 0, 1) := by decide +kernel
theorem dX3_init_32 : decode cX3_init 32 = .ok (.iconst 1, 1) := by decide +kernel
theorem dX3_init_33 : decode cX3_init 33 = .ok (.putfield 28, 3) := by decide +kernel
theorem dX3_init_36 : decode cX3_init 36 = .ok (.aload_n 0, 1) := by decide +kernel
theorem dX3_init_37 : decode cX3_init 37 = .ok (.getfield 11, 3) := by decide +kernel
theorem dX3_init_40 : decode cX3_init 40 = .ok (.iconst 0, 1) := by decide +kernel
theorem dX3_init_41 : decode cX3_init 41 = .ok (.new 9, 3) := by decide +kernel
theorem dX3_init_44 : decode cX3_init 44 = .ok (.dup, 1) := by decide +kernel
theorem dX3_init_45 : decode cX3_init 45 = .ok (.iconst 0, 1) := by decide +kernel
theorem dX3_init_46 : decode cX3_init 46 = .ok (.invokespecial 31, 3) := by decide +kernel
theorem dX3_init_49 : decode cX3_init 49 = .ok (.aastore, 1) := by decide +kernel
theorem dX3_init_50 : decode cX3_init 50 = .ok (.aload_n 0, 1) := by decide +kernel
theorem dX3_init_51 : decode cX3_init 51 = .ok (.getfield 17, 3) := by decide +kernel
theorem dX3_init_54 : decode cX3_init 54 = .ok (.iconst 1, 1) := by decide +kernel
theorem dX3_init_55 : decode cX3_init 55 = .ok (.invokestatic 34, 3) := by decide +kernel
theorem dX3_init_58 : decode cX3_init 58 = .ok (.return_, 1) := by decide +kernel
theorem dX3_clear_0 : decode cX3_clear 0 = .ok (.aload_n 0, 1) := by decide +kernel
theorem dX3_clear_1 : decode cX3_clear 1 = .ok (.iload_n 1, 1) := by decide +kernel
theorem dX3_clear_2 : decode cX3_clear 2 = .ok (.putfield 25, 3) := by decide +kernel
theorem dX3_clear_5 : decode cX3_clear 5 = .ok (.aload_n 0, 1) := by decide +kernel
theorem dX3_clear_6 : decode cX3_clear 6 = .ok (.iload_n 2, 1) := by decide +kernel
theorem dX3_clear_7 : decode cX3_clear 7 = .ok (.putfield 28, 3) := by decide +kernel
theorem dX3_clear_10 : decode cX3_clear 10 = .ok (.aload_n 0, 1) := by decide +kernel
theorem dX3_clear_11 : decode cX3_clear 11 = .ok (.iconst 1, 1) := by decide +kernel
theorem dX3_clear_12 : decode cX3_clear 12 = .ok (.putfield 21, 3) := by decide +kernel
theorem dX3_clear_15 : decode cX3_clear 15 = .ok (.aload_n 0, 1) := by decide +kernel
theorem dX3_clear_16 : decode cX3_clear 16 = .ok (.getfield 11, 3) := by decide +kernel
theorem dX3_clear_19 : decode cX3_clear 19 = .ok (.iconst 0, 1) := by decide +kernel
theorem dX3_clear_20 : decode cX3_clear 20 = .ok (.aaload, 1) := by decide +kernel
theorem dX3_clear_21 : decode cX3_clear 21 = .ok (.invokevirtual 40, 3) := by decide +kernel
theorem dX3_clear_24 : decode cX3_clear 24 = .ok (.return_, 1) := by decide +kernel
theorem dX3_nodeAt_0 : decode cX3_nodeAt 0 = .ok (.iload_n 1, 1) := by decide +kernel
theorem dX3_nodeAt_1 : decode cX3_nodeAt 1 = .ok (.ifCond .lt 29, 3) := by decide +kernel
theorem dX3_nodeAt_4 : decode cX3_nodeAt 4 = .ok (.iload_n 1, 1) := by decide +kernel
theorem dX3_nodeAt_5 : decode cX3_nodeAt 5 = .ok (.aload_n 0, 1) := by decide +kernel
theorem dX3_nodeAt_6 : decode cX3_nodeAt 6 = .ok (.getfield 21, 3) := by decide +kernel
theorem dX3_nodeAt_9 : decode cX3_nodeAt 9 = .ok (.if_icmp .ge 21, 3) := by decide +kernel
theorem dX3_nodeAt_12 : decode cX3_nodeAt 12 = .ok (.iload_n 1, 1) := by decide +kernel
theorem dX3_nodeAt_13 : decode cX3_nodeAt 13 = .ok (.aload_n 0, 1) := by decide +kernel
theorem dX3_nodeAt_14 : decode cX3_nodeAt 14 = .ok (.getfield 11, 3) := by decide +kernel
theorem dX3_nodeAt_17 : decode cX3_nodeAt 17 = .ok (.arraylength, 1) := by decide +kernel
theorem dX3_nodeAt_18 : decode cX3_nodeAt 18 = .ok (.if_icmp .ge 12, 3) := by decide +kernel
theorem dX3_nodeAt_21 : decode cX3_nodeAt 21 = .ok (.aload_n 0, 1) := by decide +kernel
theorem dX3_nodeAt_22 : decode cX3_nodeAt 22 = .ok (.getfield 11, 3) := by decide +kernel
theorem dX3_nodeAt_25 : decode cX3_nodeAt 25 = .ok (.iload_n 1, 1) := by decide +kernel
theorem dX3_nodeAt_26 : decode cX3_nodeAt 26 = .ok (.aaload, 1) := by decide +kernel
theorem dX3_nodeAt_27 : decode cX3_nodeAt 27 = .ok (.goto 4, 3) := by decide +kernel
theorem dX3_nodeAt_30 : decode cX3_nodeAt 30 = .ok (.aconst_null, 1) := by decide +kernel
theorem dX3_nodeAt_31 : decode cX3_nodeAt 31 = .ok (.areturn, 1) := by decide +kernel
theorem dX3_addNode_0 : decode cX3_addNode 0 = .ok (.aload_n 0, 1) := by decide +kernel
theorem dX3_addNode_1 : decode cX3_addNode 1 = .ok (.getfield 21, 3) := by decide +kernel
theorem dX3_addNode_4 : decode cX3_addNode 4 = .ok (.aload_n 0, 1) := by decide +kernel
theorem dX3_addNode_5 : decode cX3_addNode 5 = .ok (.getfield 11, 3) := by decide +kernel
theorem dX3_addNode_8 : decode cX3_addNode 8 = .ok (.arraylength, 1) := by decide +kernel
theorem dX3_addNode_9 : decode cX3_addNode 9 = .ok (.if_icmp .lt 5, 3) := by decide +kernel
theorem dX3_addNode_12 : decode cX3_addNode 12 = .ok (.aconst_null, 1) := by decide +kernel
theorem dX3_addNode_13 : decode cX3_addNode 13 = .ok (.areturn, 1) := by decide +kernel
theorem dX3_addNode_14 : decode cX3_addNode 14 = .ok (.aload_n 0, 1) := by decide +kernel
theorem dX3_addNode_15 : decode cX3_addNode 15 = .ok (.getfield 11, 3) := by decide +kernel
theorem dX3_addNode_18 : decode cX3_addNode 18 = .ok (.aload_n 0, 1) := by decide +kernel
theorem dX3_addNode_19 : decode cX3_addNode 19 = .ok (.getfield 21, 3) := by decide +kernel
theorem dX3_addNode_22 : decode cX3_addNode 22 = .ok (.aaload, 1) := by decide +kernel
theorem dX3_addNode_23 : decode cX3_addNode 23 = .ok (.ifnonnull 23, 3) := by decide +kernel
theorem dX3_addNode_26 : decode cX3_addNode 26 = .ok (.aload_n 0, 1) := by decide +kernel
theorem dX3_addNode_27 : decode cX3_addNode 27 = .ok (.getfield 11, 3) := by decide +kernel
theorem dX3_addNode_30 : decode cX3_addNode 30 = .ok (.aload_n 0, 1) := by decide +kernel
theorem dX3_addNode_31 : decode cX3_addNode 31 = .ok (.getfield 21, 3) := by decide +kernel
theorem dX3_addNode_34 : decode cX3_addNode 34 = .ok (.new 9, 3) := by decide +kernel
theorem dX3_addNode_37 : decode cX3_addNode 37 = .ok (.dup, 1) := by decide +kernel
theorem dX3_addNode_38 : decode cX3_addNode 38 = .ok (.aload_n 0, 1) := by decide +kernel
theorem dX3_addNode_39 : decode cX3_addNode 39 = .ok (.getfield 21, 3) := by decide +kernel
theorem dX3_addNode_42 : decode cX3_addNode 42 = .ok (.invokespecial 31, 3) := by decide +kernel
theorem dX3_addNode_45 : decode cX3_addNode 45 = .ok (.aastore, 1) := by decide +kernel
theorem dX3_addNode_46 : decode cX3_addNode 46 = .ok (.aload_n 0, 1) := by decide +kernel
theorem dX3_addNode_47 : decode cX3_addNode 47 = .ok (.getfield 11, 3) := by decide +kernel
theorem dX3_addNode_50 : decode cX3_addNode 50 = .ok (.aload_n 0, 1) := by decide +kernel
theorem dX3_addNode_51 : decode cX3_addNode 51 = .ok (.getfield 21, 3) := by decide +kernel
theorem dX3_addNode_54 : decode cX3_addNode 54 = .ok (.aaload, 1) := by decide +kernel
theorem dX3_addNode_55 : decode cX3_addNode 55 = .ok (.astore_n 3, 1) := by decide +kernel
theorem dX3_addNode_56 : decode cX3_addNode 56 = .ok (.aload_n 3, 1) := by decide +kernel
theorem dX3_addNode_57 : decode cX3_addNode 57 = .ok (.invokevirtual 40, 3) := by decide +kernel
theorem dX3_addNode_60 : decode cX3_addNode 60 = .ok (.aload_n 3, 1) := by decide +kernel
theorem dX3_addNode_61 : decode cX3_addNode 61 = .ok (.aload_n 1, 1) := by decide +kernel
theorem dX3_addNode_62 : decode cX3_addNode 62 = .ok (.putfield 43, 3) := by decide +kernel
theorem dX3_addNode_65 : decode cX3_addNode 65 = .ok (.aload_n 3, 1) := by decide +kernel
theorem dX3_addNode_66 : decode cX3_addNode 66 = .ok (.iload_n 2, 1) := by decide +kernel
theorem dX3_addNode_67 : decode cX3_addNode 67 = .ok (.putfield 47, 3) := by decide +kernel
theorem dX3_addNode_70 : decode cX3_addNode 70 = .ok (.aload_n 3, 1) := by decide +kernel
theorem dX3_addNode_71 : decode cX3_addNode 71 = .ok (.aload_n 1, 1) := by decide +kernel
theorem dX3_addNode_72 : decode cX3_addNode 72 = .ok (.getfield 50, 3) := by decide +kernel
theorem dX3_addNode_75 : decode cX3_addNode 75 = .ok (.iconst 1, 1) := by decide +kernel
theorem dX3_addNode_76 : decode cX3_addNode 76 = .ok (.iadd, 1) := by decide +kernel
theorem dX3_addNode_77 : decode cX3_addNode 77 = .ok (.putfield 50, 3) := by decide +kernel
theorem dX3_addNode_80 : decode cX3_addNode 80 = .ok (.aload_n 1, 1) := by decide +kernel
theorem dX3_addNode_81 : decode cX3_addNode 81 = .ok (.aload_n 3, 1) := by decide +kernel
theorem dX3_addNode_82 : decode cX3_addNode 82 = .ok (.invokevirtual 53, 3) := by decide +kernel
theorem dX3_addNode_85 : decode cX3_addNode 85 = .ok (.aload_n 0, 1) := by decide +kernel
theorem dX3_addNode_86 : decode cX3_addNode 86 = .ok (.dup, 1) := by decide +kernel
theorem dX3_addNode_87 : decode cX3_addNode 87 = .ok (.getfield 21, 3) := by decide +kernel
theorem dX3_addNode_90 : decode cX3_addNode 90 = .ok (.iconst 1, 1) := by decide +kernel
theorem dX3_addNode_91 : decode cX3_addNode 91 = .ok (.iadd, 1) := by decide +kernel
theorem dX3_addNode_92 : decode cX3_addNode 92 = .ok (.putfield 21, 3) := by decide +kernel
theorem dX3_addNode_95 : decode cX3_addNode 95 = .ok (.aload_n 3, 1) := by decide +kernel
theorem dX3_addNode_96 : decode cX3_addNode 96 = .ok (.areturn, 1) := by decide +kernel
theorem dX3_isLast_0 : decode cX3_isLast 0 = .ok (.aload_n 1, 1) := by decide +kernel
theorem dX3_isLast_1 : decode cX3_isLast 1 = .ok (.getfield 50, 3) := by decide +kernel
theorem dX3_isLast_4 : decode cX3_isLast 4 = .ok (.aload_n 0, 1) := by decide +kernel
theorem dX3_isLast_5 : decode cX3_isLast 5 = .ok (.getfield 25, 3) := by decide +kernel
theorem dX3_isLast_8 : decode cX3_isLast 8 = .ok (.iconst 1, 1) := by decide +kernel
theorem dX3_isLast_9 : decode cX3_isLast 9 = .ok (.isub, 1) := by decide +kernel
theorem dX3_isLast_10 : decode cX3_isLast 10 = .ok (.if_icmp .lt 7, 3) := by decide +kernel
theorem dX3_isLast_13 : decode cX3_isLast 13 = .ok (.iconst 1, 1) := by decide +kernel
theorem dX3_isLast_14 : decode cX3_isLast 14 = .ok (.goto 4, 3) := by decide +kernel
theorem dX3_isLast_17 : decode cX3_isLast 17 = .ok (.iconst 0, 1) := by decide +kernel
theorem dX3_isLast_18 : decode cX3_isLast 18 = .ok (.ireturn, 1) := by decide +kernel
theorem dX3_weeksLeft_0 : decode cX3_weeksLeft 0 = .ok (.aload_n 0, 1) := by decide +kernel
theorem dX3_weeksLeft_1 : decode cX3_weeksLeft 1 = .ok (.getfield 25, 3) := by decide +kernel
theorem dX3_weeksLeft_4 : decode cX3_weeksLeft 4 = .ok (.iconst 1, 1) := by decide +kernel
theorem dX3_weeksLeft_5 : decode cX3_weeksLeft 5 = .ok (.isub, 1) := by decide +kernel
theorem dX3_weeksLeft_6 : decode cX3_weeksLeft 6 = .ok (.aload_n 1, 1) := by decide +kernel
theorem dX3_weeksLeft_7 : decode cX3_weeksLeft 7 = .ok (.getfield 50, 3) := by decide +kernel
theorem dX3_weeksLeft_10 : decode cX3_weeksLeft 10 = .ok (.isub, 1) := by decide +kernel
theorem dX3_weeksLeft_11 : decode cX3_weeksLeft 11 = .ok (.ireturn, 1) := by decide +kernel
theorem dX3_priceFrom_0 : decode cX3_priceFrom 0 = .ok (.aload_n 1, 1) := by decide +kernel
theorem dX3_priceFrom_1 : decode cX3_priceFrom 1 = .ok (.getfield 50, 3) := by decide +kernel
theorem dX3_priceFrom_4 : decode cX3_priceFrom 4 = .ok (.iconst 1, 1) := by decide +kernel
theorem dX3_priceFrom_5 : decode cX3_priceFrom 5 = .ok (.iadd, 1) := by decide +kernel
theorem dX3_priceFrom_6 : decode cX3_priceFrom 6 = .ok (.istore_n 2, 1) := by decide +kernel
theorem dX3_priceFrom_7 : decode cX3_priceFrom 7 = .ok (.iload_n 2, 1) := by decide +kernel
theorem dX3_priceFrom_8 : decode cX3_priceFrom 8 = .ok (.ifCond .lt 21, 3) := by decide +kernel
theorem dX3_priceFrom_11 : decode cX3_priceFrom 11 = .ok (.iload_n 2, 1) := by decide +kernel
theorem dX3_priceFrom_12 : decode cX3_priceFrom 12 = .ok (.aload_n 0, 1) := by decide +kernel
theorem dX3_priceFrom_13 : decode cX3_priceFrom 13 = .ok (.getfield 17, 3) := by decide +kernel
theorem dX3_priceFrom_16 : decode cX3_priceFrom 16 = .ok (.arraylength, 1) := by decide +kernel
theorem dX3_priceFrom_17 : decode cX3_priceFrom 17 = .ok (.if_icmp .ge 12, 3) := by decide +kernel
theorem dX3_priceFrom_20 : decode cX3_priceFrom 20 = .ok (.aload_n 0, 1) := by decide +kernel
theorem dX3_priceFrom_21 : decode cX3_priceFrom 21 = .ok (.getfield 17, 3) := by decide +kernel
theorem dX3_priceFrom_24 : decode cX3_priceFrom 24 = .ok (.iload_n 2, 1) := by decide +kernel
theorem dX3_priceFrom_25 : decode cX3_priceFrom 25 = .ok (.iaload, 1) := by decide +kernel
theorem dX3_priceFrom_26 : decode cX3_priceFrom 26 = .ok (.goto 4, 3) := by decide +kernel
theorem dX3_priceFrom_29 : decode cX3_priceFrom 29 = .ok (.iconst 0, 1) := by decide +kernel
theorem dX3_priceFrom_30 : decode cX3_priceFrom 30 = .ok (.ireturn, 1) := by decide +kernel
theorem dX3_isFilled_0 : decode cX3_isFilled 0 = .ok (.iconst 0, 1) := by decide +kernel
theorem dX3_isFilled_1 : decode cX3_isFilled 1 = .ok (.istore_n 1, 1) := by decide +kernel
theorem dX3_isFilled_2 : decode cX3_isFilled 2 = .ok (.iload_n 1, 1) := by decide +kernel
theorem dX3_isFilled_3 : decode cX3_isFilled 3 = .ok (.aload_n 0, 1) := by decide +kernel
theorem dX3_isFilled_4 : decode cX3_isFilled 4 = .ok (.getfield 21, 3) := by decide +kernel
theorem dX3_isFilled_7 : decode cX3_isFilled 7 = .ok (.if_icmp .ge 40, 3) := by decide +kernel
theorem dX3_isFilled_10 : decode cX3_isFilled 10 = .ok (.aload_n 0, 1) := by decide +kernel
theorem dX3_isFilled_11 : decode cX3_isFilled 11 = .ok (.aload_n 0, 1) := by decide +kernel
theorem dX3_isFilled_12 : decode cX3_isFilled 12 = .ok (.getfield 11, 3) := by decide +kernel
theorem dX3_isFilled_15 : decode cX3_isFilled 15 = .ok (.iload_n 1, 1) := by decide +kernel
theorem dX3_isFilled_16 : decode cX3_isFilled 16 = .ok (.aaload, 1) := by decide +kernel
theorem dX3_isFilled_17 : decode cX3_isFilled 17 = .ok (.invokevirtual 57, 3) := by decide +kernel
theorem dX3_isFilled_20 : decode cX3_isFilled 20 = .ok (.ifCond .ne 21, 3) := by decide +kernel
theorem dX3_isFilled_23 : decode cX3_isFilled 23 = .ok (.aload_n 0, 1) := by decide +kernel
theorem dX3_isFilled_24 : decode cX3_isFilled 24 = .ok (.getfield 11, 3) := by decide +kernel
theorem dX3_isFilled_27 : decode cX3_isFilled 27 = .ok (.iload_n 1, 1) := by decide +kernel
theorem dX3_isFilled_28 : decode cX3_isFilled 28 = .ok (.aaload, 1) := by decide +kernel
theorem dX3_isFilled_29 : decode cX3_isFilled 29 = .ok (.getfield 61, 3) := by decide +kernel
theorem dX3_isFilled_32 : decode cX3_isFilled 32 = .ok (.aload_n 0, 1) := by decide +kernel
theorem dX3_isFilled_33 : decode cX3_isFilled 33 = .ok (.getfield 28, 3) := by decide +kernel
theorem dX3_isFilled_36 : decode cX3_isFilled 36 = .ok (.if_icmp .eq 5, 3) := by decide +kernel
theorem dX3_isFilled_39 : decode cX3_isFilled 39 = .ok (.iconst 0, 1) := by decide +kernel
theorem dX3_isFilled_40 : decode cX3_isFilled 40 = .ok (.ireturn, 1) := by decide +kernel
theorem dX3_isFilled_41 : decode cX3_isFilled 41 = .ok (.iinc 1 1, 3) := by decide +kernel
theorem dX3_isFilled_44 : decode cX3_isFilled 44 = .ok (.goto (-42), 3) := by decide +kernel
theorem dX3_isFilled_47 : decode cX3_isFilled 47 = .ok (.iconst 1, 1) := by decide +kernel
theorem dX3_isFilled_48 : decode cX3_isFilled 48 = .ok (.ireturn, 1) := by decide +kernel
theorem dX3_scaleOf_0 : decode cX3_scaleOf 0 = .ok (.lconst 1, 1) := by decide +kernel
theorem dX3_scaleOf_1 : decode cX3_scaleOf 1 = .ok (.lstore_n 2, 1) := by decide +kernel
theorem dX3_scaleOf_2 : decode cX3_scaleOf 2 = .ok (.iconst 0, 1) := by decide +kernel
theorem dX3_scaleOf_3 : decode cX3_scaleOf 3 = .ok (.istore 4, 2) := by decide +kernel
theorem dX3_scaleOf_5 : decode cX3_scaleOf 5 = .ok (.iload 4, 2) := by decide +kernel
theorem dX3_scaleOf_7 : decode cX3_scaleOf 7 = .ok (.iload_n 1, 1) := by decide +kernel
theorem dX3_scaleOf_8 : decode cX3_scaleOf 8 = .ok (.if_icmp .ge 17, 3) := by decide +kernel
theorem dX3_scaleOf_11 : decode cX3_scaleOf 11 = .ok (.lload_n 2, 1) := by decide +kernel
theorem dX3_scaleOf_12 : decode cX3_scaleOf 12 = .ok (.aload_n 0, 1) := by decide +kernel
theorem dX3_scaleOf_13 : decode cX3_scaleOf 13 = .ok (.getfield 28, 3) := by decide +kernel
theorem dX3_scaleOf_16 : decode cX3_scaleOf 16 = .ok (.i2l, 1) := by decide +kernel
theorem dX3_scaleOf_17 : decode cX3_scaleOf 17 = .ok (.lmul, 1) := by decide +kernel
theorem dX3_scaleOf_18 : decode cX3_scaleOf 18 = .ok (.lstore_n 2, 1) := by decide +kernel
theorem dX3_scaleOf_19 : decode cX3_scaleOf 19 = .ok (.iinc 4 1, 3) := by decide +kernel
theorem dX3_scaleOf_22 : decode cX3_scaleOf 22 = .ok (.goto (-17), 3) := by decide +kernel
theorem dX3_scaleOf_25 : decode cX3_scaleOf 25 = .ok (.lload_n 2, 1) := by decide +kernel
theorem dX3_scaleOf_26 : decode cX3_scaleOf 26 = .ok (.lreturn, 1) := by decide +kernel
theorem dX4_init_0 : decode cX4_init 0 = .ok (.aload_n 0, 1) := by decide +kernel
theorem dX4_init_1 : decode cX4_init 1 = .ok (.invokespecial 3, 3) := by decide +kernel
theorem dX4_init_4 : decode cX4_init 4 = .ok (.aload_n 0, 1) := by decide +kernel
theorem dX4_init_5 : decode cX4_init 5 = .ok (.iconst 3, 1) := by decide +kernel
theorem dX4_init_6 : decode cX4_init 6 = .ok (.anewarray 9, 3) := by decide +kernel
theorem dX4_init_9 : decode cX4_init 9 = .ok (.putfield 11, 3) := by decide +kernel
theorem dX4_init_12 : decode cX4_init 12 = .ok (.aload_n 0, 1) := by decide +kernel
theorem dX4_init_13 : decode cX4_init 13 = .ok (.iconst 1, 1) := by decide +kernel
theorem dX4_init_14 : decode cX4_init 14 = .ok (.putfield 17, 3) := by decide +kernel
theorem dX4_init_17 : decode cX4_init 17 = .ok (.iconst 0, 1) := by decide +kernel
theorem dX4_init_18 : decode cX4_init 18 = .ok (.istore_n 1, 1) := by decide +kernel
theorem dX4_init_19 : decode cX4_init 19 = .ok (.iload_n 1, 1) := by decide +kernel
theorem dX4_init_20 : decode cX4_init 20 = .ok (.aload_n 0, 1) := by decide +kernel
theorem dX4_init_21 : decode cX4_init 21 = .ok (.getfield 11, 3) := by decide +kernel
theorem dX4_init_24 : decode cX4_init 24 = .ok (.arraylength, 1) := by decide +kernel
theorem dX4_init_25 : decode cX4_init 25 = .ok (.if_icmp .ge 22, 3) := by decide +kernel
theorem dX4_init_28 : decode cX4_init 28 = .ok (.aload_n 0, 1) := by decide +kernel
theorem dX4_init_29 : decode cX4_init 29 = .ok (.getfield 11, 3) := by decide +kernel
theorem dX4_init_32 : decode cX4_init 32 = .ok (.iload_n 1, 1) := by decide +kernel
theorem dX4_init_33 : decode cX4_init 33 = .ok (.new 9, 3) := by decide +kernel
theorem dX4_init_36 : decode cX4_init 36 = .ok (.dup, 1) := by decide +kernel
theorem dX4_init_37 : decode cX4_init 37 = .ok (.invokespecial 21, 3) := by decide +kernel
theorem dX4_init_40 : decode cX4_init 40 = .ok (.aastore, 1) := by decide +kernel
theorem dX4_init_41 : decode cX4_init 41 = .ok (.iinc 1 1, 3) := by decide +kernel
theorem dX4_init_44 : decode cX4_init 44 = .ok (.goto (-25), 3) := by decide +kernel
theorem dX4_init_47 : decode cX4_init 47 = .ok (.return_, 1) := by decide +kernel
theorem dX4_addLake_0 : decode cX4_addLake 0 = .ok (.aload_n 0, 1) := by decide +kernel
theorem dX4_addLake_1 : decode cX4_addLake 1 = .ok (.getfield 22, 3) := by decide +kernel
theorem dX4_addLake_4 : decode cX4_addLake 4 = .ok (.aload_n 0, 1) := by decide +kernel
theorem dX4_addLake_5 : decode cX4_addLake 5 = .ok (.getfield 11, 3) := by decide +kernel
theorem dX4_addLake_8 : decode cX4_addLake 8 = .ok (.arraylength, 1) := by decide +kernel
theorem dX4_addLake_9 : decode cX4_addLake 9 = .ok (.if_icmp .lt 6, 3) := by decide +kernel
theorem dX4_addLake_12 : decode cX4_addLake 12 = .ok (.bipush (-5), 2) := by decide +kernel
theorem dX4_addLake_14 : decode cX4_addLake 14 = .ok (.ireturn, 1) := by decide +kernel
theorem dX4_addLake_15 : decode cX4_addLake 15 = .ok (.iconst 0, 1) := by decide +kernel
theorem dX4_addLake_16 : decode cX4_addLake 16 = .ok (.istore 5, 2) := by decide +kernel
theorem dX4_addLake_18 : decode cX4_addLake 18 = .ok (.iload 5, 2) := by decide +kernel
theorem dX4_addLake_20 : decode cX4_addLake 20 = .ok (.aload_n 0, 1) := by decide +kernel
theorem dX4_addLake_21 : decode cX4_addLake 21 = .ok (.getfield 22, 3) := by decide +kernel
theorem dX4_addLake_24 : decode cX4_addLake 24 = .ok (.if_icmp .ge 27, 3) := by decide +kernel
theorem dX4_addLake_27 : decode cX4_addLake 27 = .ok (.aload_n 0, 1) := by decide +kernel
theorem dX4_addLake_28 : decode cX4_addLake 28 = .ok (.getfield 11, 3) := by decide +kernel
theorem dX4_addLake_31 : decode cX4_addLake 31 = .ok (.iload 5, 2) := by decide +kernel
theorem dX4_addLake_33 : decode cX4_addLake 33 = .ok (.aaload, 1) := by decide +kernel
theorem dX4_addLake_34 : decode cX4_addLake 34 = .ok (.dup, 1) := by decide +kernel
theorem dX4_addLake_35 : decode cX4_addLake 35 = .ok (.getfield 25, 3) := by decide +kernel
theorem dX4_addLake_38 : decode cX4_addLake 38 = .ok (.iload_n 2, 1) := by decide +kernel
theorem dX4_addLake_39 : decode cX4_addLake 39 = .ok (.iconst 1, 1) := by decide +kernel
theorem dX4_addLake_40 : decode cX4_addLake 40 = .ok (.iadd, 1) := by decide +kernel
theorem dX4_addLake_41 : decode cX4_addLake 41 = .ok (.imul, 1) := by decide +kernel
theorem dX4_addLake_42 : decode cX4_addLake 42 = .ok (.putfield 25, 3) := by decide +kernel
theorem dX4_addLake_45 : decode cX4_addLake 45 = .ok (.iinc 5 1, 3) := by decide +kernel
theorem dX4_addLake_48 : decode cX4_addLake 48 = .ok (.goto (-30), 3) := by decide +kernel
theorem dX4_addLake_51 : decode cX4_addLake 51 = .ok (.aload_n 0, 1) := by decide +kernel
theorem dX4_addLake_52 : decode cX4_addLake 52 = .ok (.dup, 1) := by decide +kernel
theorem dX4_addLake_53 : decode cX4_addLake 53 = .ok (.getfield 17, 3) := by decide +kernel
theorem dX4_addLake_56 : decode cX4_addLake 56 = .ok (.iload_n 2, 1) := by decide +kernel
theorem dX4_addLake_57 : decode cX4_addLake 57 = .ok (.iconst 1, 1) := by decide +kernel
theorem dX4_addLake_58 : decode cX4_addLake 58 = .ok (.iadd, 1) := by decide +kernel
theorem dX4_addLake_59 : decode cX4_addLake 59 = .ok (.imul, 1) := by decide +kernel
theorem dX4_addLake_60 : decode cX4_addLake 60 = .ok (.putfield 17, 3) := by decide +kernel
theorem dX4_addLake_63 : decode cX4_addLake 63 = .ok (.aload_n 0, 1) := by decide +kernel
theorem dX4_addLake_64 : decode cX4_addLake 64 = .ok (.getfield 11, 3) := by decide +kernel
theorem dX4_addLake_67 : decode cX4_addLake 67 = .ok (.aload_n 0, 1) := by decide +kernel
theorem dX4_addLake_68 : decode cX4_addLake 68 = .ok (.getfield 22, 3) := by decide +kernel
theorem dX4_addLake_71 : decode cX4_addLake 71 = .ok (.aaload, 1) := by decide +kernel
theorem dX4_addLake_72 : decode cX4_addLake 72 = .ok (.astore 5, 2) := by decide +kernel
theorem dX4_addLake_74 : decode cX4_addLake 74 = .ok (.aload 5, 2) := by decide +kernel
theorem dX4_addLake_76 : decode cX4_addLake 76 = .ok (.iload_n 1, 1) := by decide +kernel
theorem dX4_addLake_77 : decode cX4_addLake 77 = .ok (.putfield 28, 3) := by decide +kernel
theorem dX4_addLake_80 : decode cX4_addLake 80 = .ok (.aload 5, 2) := by decide +kernel
theorem dX4_addLake_82 : decode cX4_addLake 82 = .ok (.iload_n 2, 1) := by decide +kernel
theorem dX4_addLake_83 : decode cX4_addLake 83 = .ok (.putfield 31, 3) := by decide +kernel
theorem dX4_addLake_86 : decode cX4_addLake 86 = .ok (.aload 5, 2) := by decide +kernel
theorem dX4_addLake_88 : decode cX4_addLake 88 = .ok (.iload_n 3, 1) := by decide +kernel
theorem dX4_addLake_89 : decode cX4_addLake 89 = .ok (.putfield 34, 3) := by decide +kernel
theorem dX4_addLake_92 : decode cX4_addLake 92 = .ok (.aload 5, 2) := by decide +kernel
theorem dX4_addLake_94 : decode cX4_addLake 94 = .ok (.iload 4, 2) := by decide +kernel
theorem dX4_addLake_96 : decode cX4_addLake 96 = .ok (.putfield 37, 3) := by decide +kernel
theorem dX4_addLake_99 : decode cX4_addLake 99 = .ok (.aload_n 0, 1) := by decide +kernel
theorem dX4_addLake_100 : decode cX4_addLake 100 = .ok (.dup, 1) := by decide +kernel
theorem dX4_addLake_101 : decode cX4_addLake 101 = .ok (.getfield 22, 3) := by decide +kernel
theorem dX4_addLake_104 : decode cX4_addLake 104 = .ok (.iconst 1, 1) := by decide +kernel
theorem dX4_addLake_105 : decode cX4_addLake 105 = .ok (.iadd, 1) := by decide +kernel
theorem dX4_addLake_106 : decode cX4_addLake 106 = .ok (.putfield 22, 3) := by decide +kernel
theorem dX4_addLake_109 : decode cX4_addLake 109 = .ok (.aload_n 0, 1) := by decide +kernel
theorem dX4_addLake_110 : decode cX4_addLake 110 = .ok (.getfield 22, 3) := by decide +kernel
theorem dX4_addLake_113 : decode cX4_addLake 113 = .ok (.iconst 1, 1) := by decide +kernel
theorem dX4_addLake_114 : decode cX4_addLake 114 = .ok (.isub, 1) := by decide +kernel
theorem dX4_addLake_115 : decode cX4_addLake 115 = .ok (.ireturn, 1) := by decide +kernel
theorem dX4_lakeAt_0 : decode cX4_lakeAt 0 = .ok (.iload_n 1, 1) := by decide +kernel
theorem dX4_lakeAt_1 : decode cX4_lakeAt 1 = .ok (.ifCond .lt 29, 3) := by decide +kernel
theorem dX4_lakeAt_4 : decode cX4_lakeAt 4 = .ok (.iload_n 1, 1) := by decide +kernel
theorem dX4_lakeAt_5 : decode cX4_lakeAt 5 = .ok (.aload_n 0, 1) := by decide +kernel
theorem dX4_lakeAt_6 : decode cX4_lakeAt 6 = .ok (.getfield 22, 3) := by decide +kernel
theorem dX4_lakeAt_9 : decode cX4_lakeAt 9 = .ok (.if_icmp .ge 21, 3) := by decide +kernel
theorem dX4_lakeAt_12 : decode cX4_lakeAt 12 = .ok (.iload_n 1, 1) := by decide +kernel
theorem dX4_lakeAt_13 : decode cX4_lakeAt 13 = .ok (.aload_n 0, 1) := by decide +kernel
theorem dX4_lakeAt_14 : decode cX4_lakeAt 14 = .ok (.getfield 11, 3) := by decide +kernel
theorem dX4_lakeAt_17 : decode cX4_lakeAt 17 = .ok (.arraylength, 1) := by decide +kernel
theorem dX4_lakeAt_18 : decode cX4_lakeAt 18 = .ok (.if_icmp .ge 12, 3) := by decide +kernel
theorem dX4_lakeAt_21 : decode cX4_lakeAt 21 = .ok (.aload_n 0, 1) := by decide +kernel
theorem dX4_lakeAt_22 : decode cX4_lakeAt 22 = .ok (.getfield 11, 3) := by decide +kernel
theorem dX4_lakeAt_25 : decode cX4_lakeAt 25 = .ok (.iload_n 1, 1) := by decide +kernel
theorem dX4_lakeAt_26 : decode cX4_lakeAt 26 = .ok (.aaload, 1) := by decide +kernel
theorem dX4_lakeAt_27 : decode cX4_lakeAt 27 = .ok (.goto 4, 3) := by decide +kernel
theorem dX4_lakeAt_30 : decode cX4_lakeAt 30 = .ok (.aconst_null, 1) := by decide +kernel
theorem dX4_lakeAt_31 : decode cX4_lakeAt 31 = .ok (.areturn, 1) := by decide +kernel
theorem dX4_hasState_0 : decode cX4_hasState 0 = .ok (.iload_n 1, 1) := by decide +kernel
theorem dX4_hasState_1 : decode cX4_hasState 1 = .ok (.ifCond .lt 15, 3) := by decide +kernel
theorem dX4_hasState_4 : decode cX4_hasState 4 = .ok (.iload_n 1, 1) := by decide +kernel
theorem dX4_hasState_5 : decode cX4_hasState 5 = .ok (.aload_n 0, 1) := by decide +kernel
theorem dX4_hasState_6 : decode cX4_hasState 6 = .ok (.getfield 17, 3) := by decide +kernel
theorem dX4_hasState_9 : decode cX4_hasState 9 = .ok (.if_icmp .ge 7, 3) := by decide +kernel
theorem dX4_hasState_12 : decode cX4_hasState 12 = .ok (.iconst 1, 1) := by decide +kernel
theorem dX4_hasState_13 : decode cX4_hasState 13 = .ok (.goto 4, 3) := by decide +kernel
theorem dX4_hasState_16 : decode cX4_hasState 16 = .ok (.iconst 0, 1) := by decide +kernel
theorem dX4_hasState_17 : decode cX4_hasState 17 = .ok (.ireturn, 1) := by decide +kernel
theorem dX4_measureOf_0 : decode cX4_measureOf 0 = .ok (.iload_n 2, 1) := by decide +kernel
theorem dX4_measureOf_1 : decode cX4_measureOf 1 = .ok (.ifCond .lt 12, 3) := by decide +kernel
theorem dX4_measureOf_4 : decode cX4_measureOf 4 = .ok (.iload_n 2, 1) := by decide +kernel
theorem dX4_measureOf_5 : decode cX4_measureOf 5 = .ok (.aload_n 0, 1) := by decide +kernel
theorem dX4_measureOf_6 : decode cX4_measureOf 6 = .ok (.getfield 11, 3) := by decide +kernel
theorem dX4_measureOf_9 : decode cX4_measureOf 9 = .ok (.arraylength, 1) := by decide +kernel
theorem dX4_measureOf_10 : decode cX4_measureOf 10 = .ok (.if_icmp .lt 5, 3) := by decide +kernel
theorem dX4_measureOf_13 : decode cX4_measureOf 13 = .ok (.iconst 0, 1) := by decide +kernel
theorem dX4_measureOf_14 : decode cX4_measureOf 14 = .ok (.ireturn, 1) := by decide +kernel
theorem dX4_measureOf_15 : decode cX4_measureOf 15 = .ok (.aload_n 0, 1) := by decide +kernel
theorem dX4_measureOf_16 : decode cX4_measureOf 16 = .ok (.getfield 11, 3) := by decide +kernel
theorem dX4_measureOf_19 : decode cX4_measureOf 19 = .ok (.iload_n 2, 1) := by decide +kernel
theorem dX4_measureOf_20 : decode cX4_measureOf 20 = .ok (.aaload, 1) := by decide +kernel
theorem dX4_measureOf_21 : decode cX4_measureOf 21 = .ok (.getfield 25, 3) := by decide +kernel
theorem dX4_measureOf_24 : decode cX4_measureOf 24 = .ok (.istore_n 3, 1) := by decide +kernel
theorem dX4_measureOf_25 : decode cX4_measureOf 25 = .ok (.aload_n 0, 1) := by decide +kernel
theorem dX4_measureOf_26 : decode cX4_measureOf 26 = .ok (.getfield 11, 3) := by decide +kernel
theorem dX4_measureOf_29 : decode cX4_measureOf 29 = .ok (.iload_n 2, 1) := by decide +kernel
theorem dX4_measureOf_30 : decode cX4_measureOf 30 = .ok (.aaload, 1) := by decide +kernel
theorem dX4_measureOf_31 : decode cX4_measureOf 31 = .ok (.getfield 31, 3) := by decide +kernel
theorem dX4_measureOf_34 : decode cX4_measureOf 34 = .ok (.iconst 1, 1) := by decide +kernel
theorem dX4_measureOf_35 : decode cX4_measureOf 35 = .ok (.iadd, 1) := by decide +kernel
theorem dX4_measureOf_36 : decode cX4_measureOf 36 = .ok (.istore 4, 2) := by decide +kernel
theorem dX4_measureOf_38 : decode cX4_measureOf 38 = .ok (.iload_n 3, 1) := by decide +kernel
theorem dX4_measureOf_39 : decode cX4_measureOf 39 = .ok (.iconst 1, 1) := by decide +kernel
theorem dX4_measureOf_40 : decode cX4_measureOf 40 = .ok (.if_icmp .lt 9, 3) := by decide +kernel
theorem dX4_measureOf_43 : decode cX4_measureOf 43 = .ok (.iload 4, 2) := by decide +kernel
theorem dX4_measureOf_45 : decode cX4_measureOf 45 = .ok (.iconst 1, 1) := by decide +kernel
theorem dX4_measureOf_46 : decode cX4_measureOf 46 = .ok (.if_icmp .ge 7, 3) := by decide +kernel
theorem dX4_measureOf_49 : decode cX4_measureOf 49 = .ok (.iconst 0, 1) := by decide +kernel
theorem dX4_measureOf_50 : decode cX4_measureOf 50 = .ok (.goto 9, 3) := by decide +kernel
theorem dX4_measureOf_53 : decode cX4_measureOf 53 = .ok (.iload_n 1, 1) := by decide +kernel
theorem dX4_measureOf_54 : decode cX4_measureOf 54 = .ok (.iload_n 3, 1) := by decide +kernel
theorem dX4_measureOf_55 : decode cX4_measureOf 55 = .ok (.idiv, 1) := by decide +kernel
theorem dX4_measureOf_56 : decode cX4_measureOf 56 = .ok (.iload 4, 2) := by decide +kernel
theorem dX4_measureOf_58 : decode cX4_measureOf 58 = .ok (.irem, 1) := by decide +kernel
theorem dX4_measureOf_59 : decode cX4_measureOf 59 = .ok (.ireturn, 1) := by decide +kernel
theorem dX4_sumOf_0 : decode cX4_sumOf 0 = .ok (.iconst 0, 1) := by decide +kernel
theorem dX4_sumOf_1 : decode cX4_sumOf 1 = .ok (.istore_n 2, 1) := by decide +kernel
theorem dX4_sumOf_2 : decode cX4_sumOf 2 = .ok (.iconst 0, 1) := by decide +kernel
theorem dX4_sumOf_3 : decode cX4_sumOf 3 = .ok (.istore_n 3, 1) := by decide +kernel
theorem dX4_sumOf_4 : decode cX4_sumOf 4 = .ok (.iload_n 3, 1) := by decide +kernel
theorem dX4_sumOf_5 : decode cX4_sumOf 5 = .ok (.aload_n 0, 1) := by decide +kernel
theorem dX4_sumOf_6 : decode cX4_sumOf 6 = .ok (.getfield 22, 3) := by decide +kernel
theorem dX4_sumOf_9 : decode cX4_sumOf 9 = .ok (.if_icmp .ge 18, 3) := by decide +kernel
theorem dX4_sumOf_12 : decode cX4_sumOf 12 = .ok (.iload_n 2, 1) := by decide +kernel
theorem dX4_sumOf_13 : decode cX4_sumOf 13 = .ok (.aload_n 0, 1) := by decide +kernel
theorem dX4_sumOf_14 : decode cX4_sumOf 14 = .ok (.iload_n 1, 1) := by decide +kernel
theorem dX4_sumOf_15 : decode cX4_sumOf 15 = .ok (.iload_n 3, 1) := by decide +kernel
theorem dX4_sumOf_16 : decode cX4_sumOf 16 = .ok (.invokevirtual 40, 3) := by decide +kernel
theorem dX4_sumOf_19 : decode cX4_sumOf 19 = .ok (.iadd, 1) := by decide +kernel
theorem dX4_sumOf_20 : decode cX4_sumOf 20 = .ok (.istore_n 2, 1) := by decide +kernel
theorem dX4_sumOf_21 : decode cX4_sumOf 21 = .ok (.iinc 3 1, 3) := by decide +kernel
theorem dX4_sumOf_24 : decode cX4_sumOf 24 = .ok (.goto (-20), 3) := by decide +kernel
theorem dX4_sumOf_27 : decode cX4_sumOf 27 = .ok (.iload_n 2, 1) := by decide +kernel
theorem dX4_sumOf_28 : decode cX4_sumOf 28 = .ok (.ireturn, 1) := by decide +kernel
theorem dX4_endWorth_0 : decode cX4_endWorth 0 = .ok (.lconst 0, 1) := by decide +kernel
theorem dX4_endWorth_1 : decode cX4_endWorth 1 = .ok (.lstore_n 2, 1) := by decide +kernel
theorem dX4_endWorth_2 : decode cX4_endWorth 2 = .ok (.iconst 0, 1) := by decide +kernel
theorem dX4_endWorth_3 : decode cX4_endWorth 3 = .ok (.istore 4, 2) := by decide +kernel
theorem dX4_endWorth_5 : decode cX4_endWorth 5 = .ok (.iload 4, 2) := by decide +kernel
theorem dX4_endWorth_7 : decode cX4_endWorth 7 = .ok (.aload_n 0, 1) := by decide +kernel
theorem dX4_endWorth_8 : decode cX4_endWorth 8 = .ok (.getfield 22, 3) := by decide +kernel
theorem dX4_endWorth_11 : decode cX4_endWorth 11 = .ok (.if_icmp .ge 32, 3) := by decide +kernel
theorem dX4_endWorth_14 : decode cX4_endWorth 14 = .ok (.lload_n 2, 1) := by decide +kernel
theorem dX4_endWorth_15 : decode cX4_endWorth 15 = .ok (.aload_n 0, 1) := by decide +kernel
theorem dX4_endWorth_16 : decode cX4_endWorth 16 = .ok (.getfield 11, 3) := by decide +kernel
theorem dX4_endWorth_19 : decode cX4_endWorth 19 = .ok (.iload 4, 2) := by decide +kernel
theorem dX4_endWorth_21 : decode cX4_endWorth 21 = .ok (.aaload, 1) := by decide +kernel
theorem dX4_endWorth_22 : decode cX4_endWorth 22 = .ok (.getfield 44, 3) := by decide +kernel
theorem dX4_endWorth_25 : decode cX4_endWorth 25 = .ok (.i2l, 1) := by decide +kernel
theorem dX4_endWorth_26 : decode cX4_endWorth 26 = .ok (.aload_n 0, 1) := by decide +kernel
theorem dX4_endWorth_27 : decode cX4_endWorth 27 = .ok (.iload_n 1, 1) := by decide +kernel
theorem dX4_endWorth_28 : decode cX4_endWorth 28 = .ok (.iload 4, 2) := by decide +kernel
theorem dX4_endWorth_30 : decode cX4_endWorth 30 = .ok (.invokevirtual 40, 3) := by decide +kernel
theorem dX4_endWorth_33 : decode cX4_endWorth 33 = .ok (.i2l, 1) := by decide +kernel
theorem dX4_endWorth_34 : decode cX4_endWorth 34 = .ok (.lmul, 1) := by decide +kernel
theorem dX4_endWorth_35 : decode cX4_endWorth 35 = .ok (.ladd, 1) := by decide +kernel
theorem dX4_endWorth_36 : decode cX4_endWorth 36 = .ok (.lstore_n 2, 1) := by decide +kernel
theorem dX4_endWorth_37 : decode cX4_endWorth 37 = .ok (.iinc 4 1, 3) := by decide +kernel
theorem dX4_endWorth_40 : decode cX4_endWorth 40 = .ok (.goto (-35), 3) := by decide +kernel
theorem dX4_endWorth_43 : decode cX4_endWorth 43 = .ok (.lload_n 2, 1) := by decide +kernel
theorem dX4_endWorth_44 : decode cX4_endWorth 44 = .ok (.lreturn, 1) := by decide +kernel
theorem dX4_isBelowLeast_0 : decode cX4_isBelowLeast 0 = .ok (.iconst 0, 1) := by decide +kernel
end
section
theorem dX4_isBelowLeast_1 : decode cX4_isBelowLeast 1 = .ok (.istore_n 2, 1) := by decide +kernel
theorem dX4_isBelowLeast_2 : decode cX4_isBelowLeast 2 = .ok (.iload_n 2, 1) := by decide +kernel
theorem dX4_isBelowLeast_3 : decode cX4_isBelowLeast 3 = .ok (.aload_n 0, 1) := by decide +kernel
theorem dX4_isBelowLeast_4 : decode cX4_isBelowLeast 4 = .ok (.getfield 22, 3) := by decide +kernel
theorem dX4_isBelowLeast_7 : decode cX4_isBelowLeast 7 = .ok (.if_icmp .ge 29, 3) := by decide +kernel
theorem dX4_isBelowLeast_10 : decode cX4_isBelowLeast 10 = .ok (.aload_n 0, 1) := by decide +kernel
theorem dX4_isBelowLeast_11 : decode cX4_isBelowLeast 11 = .ok (.iload_n 1, 1) := by decide +kernel
theorem dX4_isBelowLeast_12 : decode cX4_isBelowLeast 12 = .ok (.iload_n 2, 1) := by decide +kernel
theorem dX4_isBelowLeast_13 : decode cX4_isBelowLeast 13 = .ok (.invokevirtual 40, 3) := by decide +kernel
theorem dX4_isBelowLeast_16 : decode cX4_isBelowLeast 16 = .ok (.aload_n 0, 1) := by decide +kernel
theorem dX4_isBelowLeast_17 : decode cX4_isBelowLeast 17 = .ok (.getfield 11, 3) := by decide +kernel
theorem dX4_isBelowLeast_20 : decode cX4_isBelowLeast 20 = .ok (.iload_n 2, 1) := by decide +kernel
theorem dX4_isBelowLeast_21 : decode cX4_isBelowLeast 21 = .ok (.aaload, 1) := by decide +kernel
theorem dX4_isBelowLeast_22 : decode cX4_isBelowLeast 22 = .ok (.getfield 28, 3) := by decide +kernel
theorem dX4_isBelowLeast_25 : decode cX4_isBelowLeast 25 = .ok (.if_icmp .ge 5, 3) := by decide +kernel
theorem dX4_isBelowLeast_28 : decode cX4_isBelowLeast 28 = .ok (.iconst 1, 1) := by decide +kernel
theorem dX4_isBelowLeast_29 : decode cX4_isBelowLeast 29 = .ok (.ireturn, 1) := by decide +kernel
theorem dX4_isBelowLeast_30 : decode cX4_isBelowLeast 30 = .ok (.iinc 2 1, 3) := by decide +kernel
theorem dX4_isBelowLeast_33 : decode cX4_isBelowLeast 33 = .ok (.goto (-31), 3) := by decide +kernel
theorem dX4_isBelowLeast_36 : decode cX4_isBelowLeast 36 = .ok (.iconst 0, 1) := by decide +kernel
theorem dX4_isBelowLeast_37 : decode cX4_isBelowLeast 37 = .ok (.ireturn, 1) := by decide +kernel
theorem dX4_mostIn_0 : decode cX4_mostIn 0 = .ok (.iconst 1, 1) := by decide +kernel
theorem dX4_mostIn_1 : decode cX4_mostIn 1 = .ok (.istore_n 1, 1) := by decide +kernel
theorem dX4_mostIn_2 : decode cX4_mostIn 2 = .ok (.iconst 0, 1) := by decide +kernel
theorem dX4_mostIn_3 : decode cX4_mostIn 3 = .ok (.istore_n 2, 1) := by decide +kernel
theorem dX4_mostIn_4 : decode cX4_mostIn 4 = .ok (.iload_n 2, 1) := by decide +kernel
theorem dX4_mostIn_5 : decode cX4_mostIn 5 = .ok (.aload_n 0, 1) := by decide +kernel
theorem dX4_mostIn_6 : decode cX4_mostIn 6 = .ok (.getfield 22, 3) := by decide +kernel
theorem dX4_mostIn_9 : decode cX4_mostIn 9 = .ok (.if_icmp .ge 14, 3) := by decide +kernel
theorem dX4_mostIn_12 : decode cX4_mostIn 12 = .ok (.iload_n 1, 1) := by decide +kernel
theorem dX4_mostIn_13 : decode cX4_mostIn 13 = .ok (.bipush 10, 2) := by decide +kernel
theorem dX4_mostIn_15 : decode cX4_mostIn 15 = .ok (.imul, 1) := by decide +kernel
theorem dX4_mostIn_16 : decode cX4_mostIn 16 = .ok (.istore_n 1, 1) := by decide +kernel
theorem dX4_mostIn_17 : decode cX4_mostIn 17 = .ok (.iinc 2 1, 3) := by decide +kernel
theorem dX4_mostIn_20 : decode cX4_mostIn 20 = .ok (.goto (-16), 3) := by decide +kernel
theorem dX4_mostIn_23 : decode cX4_mostIn 23 = .ok (.iload_n 1, 1) := by decide +kernel
theorem dX4_mostIn_24 : decode cX4_mostIn 24 = .ok (.iconst 1, 1) := by decide +kernel
theorem dX4_mostIn_25 : decode cX4_mostIn 25 = .ok (.isub, 1) := by decide +kernel
theorem dX4_mostIn_26 : decode cX4_mostIn 26 = .ok (.ireturn, 1) := by decide +kernel
theorem dX4_tellIn_0 : decode cX4_tellIn 0 = .ok (.iload_n 1, 1) := by decide +kernel
theorem dX4_tellIn_1 : decode cX4_tellIn 1 = .ok (.istore_n 3, 1) := by decide +kernel
theorem dX4_tellIn_2 : decode cX4_tellIn 2 = .ok (.aload_n 2, 1) := by decide +kernel
theorem dX4_tellIn_3 : decode cX4_tellIn 3 = .ok (.arraylength, 1) := by decide +kernel
theorem dX4_tellIn_4 : decode cX4_tellIn 4 = .ok (.iconst 1, 1) := by decide +kernel
theorem dX4_tellIn_5 : decode cX4_tellIn 5 = .ok (.isub, 1) := by decide +kernel
theorem dX4_tellIn_6 : decode cX4_tellIn 6 = .ok (.istore 4, 2) := by decide +kernel
theorem dX4_tellIn_8 : decode cX4_tellIn 8 = .ok (.iload 4, 2) := by decide +kernel
theorem dX4_tellIn_10 : decode cX4_tellIn 10 = .ok (.ifCond .lt 44, 3) := by decide +kernel
theorem dX4_tellIn_13 : decode cX4_tellIn 13 = .ok (.aload_n 2, 1) := by decide +kernel
theorem dX4_tellIn_14 : decode cX4_tellIn 14 = .ok (.iload 4, 2) := by decide +kernel
theorem dX4_tellIn_16 : decode cX4_tellIn 16 = .ok (.iload 4, 2) := by decide +kernel
theorem dX4_tellIn_18 : decode cX4_tellIn 18 = .ok (.aload_n 0, 1) := by decide +kernel
theorem dX4_tellIn_19 : decode cX4_tellIn 19 = .ok (.getfield 22, 3) := by decide +kernel
theorem dX4_tellIn_22 : decode cX4_tellIn 22 = .ok (.if_icmp .ge 10, 3) := by decide +kernel
theorem dX4_tellIn_25 : decode cX4_tellIn 25 = .ok (.iload_n 3, 1) := by decide +kernel
theorem dX4_tellIn_26 : decode cX4_tellIn 26 = .ok (.bipush 10, 2) := by decide +kernel
theorem dX4_tellIn_28 : decode cX4_tellIn 28 = .ok (.irem, 1) := by decide +kernel
theorem dX4_tellIn_29 : decode cX4_tellIn 29 = .ok (.goto 4, 3) := by decide +kernel
theorem dX4_tellIn_32 : decode cX4_tellIn 32 = .ok (.iconst 0, 1) := by decide +kernel
theorem dX4_tellIn_33 : decode cX4_tellIn 33 = .ok (.iastore, 1) := by decide +kernel
theorem dX4_tellIn_34 : decode cX4_tellIn 34 = .ok (.iload 4, 2) := by decide +kernel
theorem dX4_tellIn_36 : decode cX4_tellIn 36 = .ok (.aload_n 0, 1) := by decide +kernel
theorem dX4_tellIn_37 : decode cX4_tellIn 37 = .ok (.getfield 22, 3) := by decide +kernel
theorem dX4_tellIn_40 : decode cX4_tellIn 40 = .ok (.if_icmp .ge 8, 3) := by decide +kernel
theorem dX4_tellIn_43 : decode cX4_tellIn 43 = .ok (.iload_n 3, 1) := by decide +kernel
theorem dX4_tellIn_44 : decode cX4_tellIn 44 = .ok (.bipush 10, 2) := by decide +kernel
theorem dX4_tellIn_46 : decode cX4_tellIn 46 = .ok (.idiv, 1) := by decide +kernel
theorem dX4_tellIn_47 : decode cX4_tellIn 47 = .ok (.istore_n 3, 1) := by decide +kernel
theorem dX4_tellIn_48 : decode cX4_tellIn 48 = .ok (.iinc 4 (-1), 3) := by decide +kernel
theorem dX4_tellIn_51 : decode cX4_tellIn 51 = .ok (.goto (-43), 3) := by decide +kernel
theorem dX4_tellIn_54 : decode cX4_tellIn 54 = .ok (.return_, 1) := by decide +kernel
theorem dX4_mostLets_0 : decode cX4_mostLets 0 = .ok (.iconst 1, 1) := by decide +kernel
theorem dX4_mostLets_1 : decode cX4_mostLets 1 = .ok (.iconst 4, 1) := by decide +kernel
theorem dX4_mostLets_2 : decode cX4_mostLets 2 = .ok (.aload_n 0, 1) := by decide +kernel
theorem dX4_mostLets_3 : decode cX4_mostLets 3 = .ok (.getfield 22, 3) := by decide +kernel
theorem dX4_mostLets_6 : decode cX4_mostLets 6 = .ok (.imul, 1) := by decide +kernel
theorem dX4_mostLets_7 : decode cX4_mostLets 7 = .ok (.ishl, 1) := by decide +kernel
theorem dX4_mostLets_8 : decode cX4_mostLets 8 = .ok (.iconst 1, 1) := by decide +kernel
theorem dX4_mostLets_9 : decode cX4_mostLets 9 = .ok (.isub, 1) := by decide +kernel
theorem dX4_mostLets_10 : decode cX4_mostLets 10 = .ok (.ireturn, 1) := by decide +kernel
theorem dX4_allLets_0 : decode cX4_allLets 0 = .ok (.iload_n 1, 1) := by decide +kernel
theorem dX4_allLets_1 : decode cX4_allLets 1 = .ok (.iconst 4, 1) := by decide +kernel
theorem dX4_allLets_2 : decode cX4_allLets 2 = .ok (.iconst 3, 1) := by decide +kernel
theorem dX4_allLets_3 : decode cX4_allLets 3 = .ok (.aload_n 0, 1) := by decide +kernel
theorem dX4_allLets_4 : decode cX4_allLets 4 = .ok (.getfield 22, 3) := by decide +kernel
theorem dX4_allLets_7 : decode cX4_allLets 7 = .ok (.isub, 1) := by decide +kernel
theorem dX4_allLets_8 : decode cX4_allLets 8 = .ok (.imul, 1) := by decide +kernel
theorem dX4_allLets_9 : decode cX4_allLets 9 = .ok (.ishl, 1) := by decide +kernel
theorem dX4_allLets_10 : decode cX4_allLets 10 = .ok (.ireturn, 1) := by decide +kernel
theorem dX4_letOf_0 : decode cX4_letOf 0 = .ok (.iload_n 1, 1) := by decide +kernel
theorem dX4_letOf_1 : decode cX4_letOf 1 = .ok (.ifCond .lt 8, 3) := by decide +kernel
theorem dX4_letOf_4 : decode cX4_letOf 4 = .ok (.iload_n 1, 1) := by decide +kernel
theorem dX4_letOf_5 : decode cX4_letOf 5 = .ok (.iconst 3, 1) := by decide +kernel
theorem dX4_letOf_6 : decode cX4_letOf 6 = .ok (.if_icmp .lt 7, 3) := by decide +kernel
theorem dX4_letOf_9 : decode cX4_letOf 9 = .ok (.iconst 0, 1) := by decide +kernel
theorem dX4_letOf_10 : decode cX4_letOf 10 = .ok (.goto 13, 3) := by decide +kernel
theorem dX4_letOf_13 : decode cX4_letOf 13 = .ok (.iload_n 0, 1) := by decide +kernel
theorem dX4_letOf_14 : decode cX4_letOf 14 = .ok (.iconst 4, 1) := by decide +kernel
theorem dX4_letOf_15 : decode cX4_letOf 15 = .ok (.iconst 2, 1) := by decide +kernel
theorem dX4_letOf_16 : decode cX4_letOf 16 = .ok (.iload_n 1, 1) := by decide +kernel
theorem dX4_letOf_17 : decode cX4_letOf 17 = .ok (.isub, 1) := by decide +kernel
theorem dX4_letOf_18 : decode cX4_letOf 18 = .ok (.imul, 1) := by decide +kernel
theorem dX4_letOf_19 : decode cX4_letOf 19 = .ok (.ishr, 1) := by decide +kernel
theorem dX4_letOf_20 : decode cX4_letOf 20 = .ok (.bipush 15, 2) := by decide +kernel
theorem dX4_letOf_22 : decode cX4_letOf 22 = .ok (.iand, 1) := by decide +kernel
theorem dX4_letOf_23 : decode cX4_letOf 23 = .ok (.ireturn, 1) := by decide +kernel
theorem dX4_mayLet_0 : decode cX4_mayLet 0 = .ok (.iconst 0, 1) := by decide +kernel
theorem dX4_mayLet_1 : decode cX4_mayLet 1 = .ok (.istore_n 3, 1) := by decide +kernel
theorem dX4_mayLet_2 : decode cX4_mayLet 2 = .ok (.iload_n 3, 1) := by decide +kernel
theorem dX4_mayLet_3 : decode cX4_mayLet 3 = .ok (.aload_n 0, 1) := by decide +kernel
theorem dX4_mayLet_4 : decode cX4_mayLet 4 = .ok (.getfield 22, 3) := by decide +kernel
theorem dX4_mayLet_7 : decode cX4_mayLet 7 = .ok (.if_icmp .ge 58, 3) := by decide +kernel
theorem dX4_mayLet_10 : decode cX4_mayLet 10 = .ok (.aload_n 0, 1) := by decide +kernel
theorem dX4_mayLet_11 : decode cX4_mayLet 11 = .ok (.iload_n 1, 1) := by decide +kernel
theorem dX4_mayLet_12 : decode cX4_mayLet 12 = .ok (.iload_n 3, 1) := by decide +kernel
theorem dX4_mayLet_13 : decode cX4_mayLet 13 = .ok (.invokevirtual 40, 3) := by decide +kernel
theorem dX4_mayLet_16 : decode cX4_mayLet 16 = .ok (.istore 4, 2) := by decide +kernel
theorem dX4_mayLet_18 : decode cX4_mayLet 18 = .ok (.iload_n 2, 1) := by decide +kernel
theorem dX4_mayLet_19 : decode cX4_mayLet 19 = .ok (.iload_n 3, 1) := by decide +kernel
theorem dX4_mayLet_20 : decode cX4_mayLet 20 = .ok (.invokestatic 47, 3) := by decide +kernel
theorem dX4_mayLet_23 : decode cX4_mayLet 23 = .ok (.istore 5, 2) := by decide +kernel
theorem dX4_mayLet_25 : decode cX4_mayLet 25 = .ok (.iload 5, 2) := by decide +kernel
theorem dX4_mayLet_27 : decode cX4_mayLet 27 = .ok (.aload_n 0, 1) := by decide +kernel
theorem dX4_mayLet_28 : decode cX4_mayLet 28 = .ok (.getfield 11, 3) := by decide +kernel
theorem dX4_mayLet_31 : decode cX4_mayLet 31 = .ok (.iload_n 3, 1) := by decide +kernel
theorem dX4_mayLet_32 : decode cX4_mayLet 32 = .ok (.aaload, 1) := by decide +kernel
theorem dX4_mayLet_33 : decode cX4_mayLet 33 = .ok (.iload 4, 2) := by decide +kernel
theorem dX4_mayLet_35 : decode cX4_mayLet 35 = .ok (.invokevirtual 50, 3) := by decide +kernel
theorem dX4_mayLet_38 : decode cX4_mayLet 38 = .ok (.if_icmp .lt 19, 3) := by decide +kernel
theorem dX4_mayLet_41 : decode cX4_mayLet 41 = .ok (.iload 5, 2) := by decide +kernel
theorem dX4_mayLet_43 : decode cX4_mayLet 43 = .ok (.aload_n 0, 1) := by decide +kernel
theorem dX4_mayLet_44 : decode cX4_mayLet 44 = .ok (.getfield 11, 3) := by decide +kernel
theorem dX4_mayLet_47 : decode cX4_mayLet 47 = .ok (.iload_n 3, 1) := by decide +kernel
theorem dX4_mayLet_48 : decode cX4_mayLet 48 = .ok (.aaload, 1) := by decide +kernel
theorem dX4_mayLet_49 : decode cX4_mayLet 49 = .ok (.iload 4, 2) := by decide +kernel
theorem dX4_mayLet_51 : decode cX4_mayLet 51 = .ok (.invokevirtual 54, 3) := by decide +kernel
theorem dX4_mayLet_54 : decode cX4_mayLet 54 = .ok (.if_icmp .le 5, 3) := by decide +kernel
theorem dX4_mayLet_57 : decode cX4_mayLet 57 = .ok (.iconst 0, 1) := by decide +kernel
theorem dX4_mayLet_58 : decode cX4_mayLet 58 = .ok (.ireturn, 1) := by decide +kernel
theorem dX4_mayLet_59 : decode cX4_mayLet 59 = .ok (.iinc 3 1, 3) := by decide +kernel
theorem dX4_mayLet_62 : decode cX4_mayLet 62 = .ok (.goto (-60), 3) := by decide +kernel
theorem dX4_mayLet_65 : decode cX4_mayLet 65 = .ok (.iconst 1, 1) := by decide +kernel
theorem dX4_mayLet_66 : decode cX4_mayLet 66 = .ok (.ireturn, 1) := by decide +kernel
theorem dX4_ruleLets_0 : decode cX4_ruleLets 0 = .ok (.iconst 0, 1) := by decide +kernel
theorem dX4_ruleLets_1 : decode cX4_ruleLets 1 = .ok (.istore_n 2, 1) := by decide +kernel
theorem dX4_ruleLets_2 : decode cX4_ruleLets 2 = .ok (.iconst 0, 1) := by decide +kernel
theorem dX4_ruleLets_3 : decode cX4_ruleLets 3 = .ok (.istore_n 3, 1) := by decide +kernel
theorem dX4_ruleLets_4 : decode cX4_ruleLets 4 = .ok (.iload_n 3, 1) := by decide +kernel
theorem dX4_ruleLets_5 : decode cX4_ruleLets 5 = .ok (.aload_n 0, 1) := by decide +kernel
theorem dX4_ruleLets_6 : decode cX4_ruleLets 6 = .ok (.getfield 11, 3) := by decide +kernel
theorem dX4_ruleLets_9 : decode cX4_ruleLets 9 = .ok (.arraylength, 1) := by decide +kernel
theorem dX4_ruleLets_10 : decode cX4_ruleLets 10 = .ok (.if_icmp .ge 29, 3) := by decide +kernel
theorem dX4_ruleLets_13 : decode cX4_ruleLets 13 = .ok (.iload_n 2, 1) := by decide +kernel
theorem dX4_ruleLets_14 : decode cX4_ruleLets 14 = .ok (.iconst 4, 1) := by decide +kernel
theorem dX4_ruleLets_15 : decode cX4_ruleLets 15 = .ok (.ishl, 1) := by decide +kernel
theorem dX4_ruleLets_16 : decode cX4_ruleLets 16 = .ok (.aload_n 0, 1) := by decide +kernel
theorem dX4_ruleLets_17 : decode cX4_ruleLets 17 = .ok (.getfield 11, 3) := by decide +kernel
theorem dX4_ruleLets_20 : decode cX4_ruleLets 20 = .ok (.iload_n 3, 1) := by decide +kernel
theorem dX4_ruleLets_21 : decode cX4_ruleLets 21 = .ok (.aaload, 1) := by decide +kernel
theorem dX4_ruleLets_22 : decode cX4_ruleLets 22 = .ok (.aload_n 0, 1) := by decide +kernel
theorem dX4_ruleLets_23 : decode cX4_ruleLets 23 = .ok (.iload_n 1, 1) := by decide +kernel
theorem dX4_ruleLets_24 : decode cX4_ruleLets 24 = .ok (.iload_n 3, 1) := by decide +kernel
theorem dX4_ruleLets_25 : decode cX4_ruleLets 25 = .ok (.invokevirtual 40, 3) := by decide +kernel
theorem dX4_ruleLets_28 : decode cX4_ruleLets 28 = .ok (.invokevirtual 57, 3) := by decide +kernel
theorem dX4_ruleLets_31 : decode cX4_ruleLets 31 = .ok (.ior, 1) := by decide +kernel
theorem dX4_ruleLets_32 : decode cX4_ruleLets 32 = .ok (.istore_n 2, 1) := by decide +kernel
theorem dX4_ruleLets_33 : decode cX4_ruleLets 33 = .ok (.iinc 3 1, 3) := by decide +kernel
theorem dX4_ruleLets_36 : decode cX4_ruleLets 36 = .ok (.goto (-32), 3) := by decide +kernel
theorem dX4_ruleLets_39 : decode cX4_ruleLets 39 = .ok (.iload_n 2, 1) := by decide +kernel
theorem dX4_ruleLets_40 : decode cX4_ruleLets 40 = .ok (.ireturn, 1) := by decide +kernel
theorem dX4_headsTimesLets_0 : decode cX4_headsTimesLets 0 = .ok (.iconst 0, 1) := by decide +kernel
theorem dX4_headsTimesLets_1 : decode cX4_headsTimesLets 1 = .ok (.istore_n 3, 1) := by decide +kernel
theorem dX4_headsTimesLets_2 : decode cX4_headsTimesLets 2 = .ok (.iconst 0, 1) := by decide +kernel
theorem dX4_headsTimesLets_3 : decode cX4_headsTimesLets 3 = .ok (.istore 4, 2) := by decide +kernel
theorem dX4_headsTimesLets_5 : decode cX4_headsTimesLets 5 = .ok (.iload 4, 2) := by decide +kernel
theorem dX4_headsTimesLets_7 : decode cX4_headsTimesLets 7 = .ok (.aload_n 0, 1) := by decide +kernel
theorem dX4_headsTimesLets_8 : decode cX4_headsTimesLets 8 = .ok (.getfield 22, 3) := by decide +kernel
theorem dX4_headsTimesLets_11 : decode cX4_headsTimesLets 11 = .ok (.if_icmp .ge 36, 3) := by decide +kernel
theorem dX4_headsTimesLets_14 : decode cX4_headsTimesLets 14 = .ok (.iload_n 3, 1) := by decide +kernel
theorem dX4_headsTimesLets_15 : decode cX4_headsTimesLets 15 = .ok (.aload_n 0, 1) := by decide +kernel
theorem dX4_headsTimesLets_16 : decode cX4_headsTimesLets 16 = .ok (.getfield 11, 3) := by decide +kernel
theorem dX4_headsTimesLets_19 : decode cX4_headsTimesLets 19 = .ok (.iload 4, 2) := by decide +kernel
theorem dX4_headsTimesLets_21 : decode cX4_headsTimesLets 21 = .ok (.aaload, 1) := by decide +kernel
theorem dX4_headsTimesLets_22 : decode cX4_headsTimesLets 22 = .ok (.aload_n 0, 1) := by decide +kernel
theorem dX4_headsTimesLets_23 : decode cX4_headsTimesLets 23 = .ok (.iload_n 1, 1) := by decide +kernel
theorem dX4_headsTimesLets_24 : decode cX4_headsTimesLets 24 = .ok (.iload 4, 2) := by decide +kernel
theorem dX4_headsTimesLets_26 : decode cX4_headsTimesLets 26 = .ok (.invokevirtual 40, 3) := by decide +kernel
theorem dX4_headsTimesLets_29 : decode cX4_headsTimesLets 29 = .ok (.invokevirtual 60, 3) := by decide +kernel
theorem dX4_headsTimesLets_32 : decode cX4_headsTimesLets 32 = .ok (.iload_n 2, 1) := by decide +kernel
theorem dX4_headsTimesLets_33 : decode cX4_headsTimesLets 33 = .ok (.iload 4, 2) := by decide +kernel
theorem dX4_headsTimesLets_35 : decode cX4_headsTimesLets 35 = .ok (.invokestatic 47, 3) := by decide +kernel
theorem dX4_headsTimesLets_38 : decode cX4_headsTimesLets 38 = .ok (.imul, 1) := by decide +kernel
theorem dX4_headsTimesLets_39 : decode cX4_headsTimesLets 39 = .ok (.iadd, 1) := by decide +kernel
theorem dX4_headsTimesLets_40 : decode cX4_headsTimesLets 40 = .ok (.istore_n 3, 1) := by decide +kernel
theorem dX4_headsTimesLets_41 : decode cX4_headsTimesLets 41 = .ok (.iinc 4 1, 3) := by decide +kernel
theorem dX4_headsTimesLets_44 : decode cX4_headsTimesLets 44 = .ok (.goto (-39), 3) := by decide +kernel
theorem dX4_headsTimesLets_47 : decode cX4_headsTimesLets 47 = .ok (.iload_n 3, 1) := by decide +kernel
theorem dX4_headsTimesLets_48 : decode cX4_headsTimesLets 48 = .ok (.ireturn, 1) := by decide +kernel
theorem dX4_flow_0 : decode cX4_flow 0 = .ok (.iconst 0, 1) := by decide +kernel
theorem dX4_flow_1 : decode cX4_flow 1 = .ok (.istore 4, 2) := by decide +kernel
theorem dX4_flow_3 : decode cX4_flow 3 = .ok (.iconst 0, 1) := by decide +kernel
theorem dX4_flow_4 : decode cX4_flow 4 = .ok (.istore 5, 2) := by decide +kernel
theorem dX4_flow_6 : decode cX4_flow 6 = .ok (.iconst 0, 1) := by decide +kernel
theorem dX4_flow_7 : decode cX4_flow 7 = .ok (.istore 6, 2) := by decide +kernel
theorem dX4_flow_9 : decode cX4_flow 9 = .ok (.aload_n 0, 1) := by decide +kernel
theorem dX4_flow_10 : decode cX4_flow 10 = .ok (.iconst 0, 1) := by decide +kernel
theorem dX4_flow_11 : decode cX4_flow 11 = .ok (.putfield 63, 3) := by decide +kernel
theorem dX4_flow_14 : decode cX4_flow 14 = .ok (.iconst 0, 1) := by decide +kernel
theorem dX4_flow_15 : decode cX4_flow 15 = .ok (.istore 7, 2) := by decide +kernel
theorem dX4_flow_17 : decode cX4_flow 17 = .ok (.iload 7, 2) := by decide +kernel
theorem dX4_flow_19 : decode cX4_flow 19 = .ok (.aload_n 0, 1) := by decide +kernel
theorem dX4_flow_20 : decode cX4_flow 20 = .ok (.getfield 11, 3) := by decide +kernel
theorem dX4_flow_23 : decode cX4_flow 23 = .ok (.arraylength, 1) := by decide +kernel
theorem dX4_flow_24 : decode cX4_flow 24 = .ok (.if_icmp .ge 117, 3) := by decide +kernel
theorem dX4_flow_27 : decode cX4_flow 27 = .ok (.iload_n 2, 1) := by decide +kernel
theorem dX4_flow_28 : decode cX4_flow 28 = .ok (.iload 7, 2) := by decide +kernel
theorem dX4_flow_30 : decode cX4_flow 30 = .ok (.invokestatic 47, 3) := by decide +kernel
theorem dX4_flow_33 : decode cX4_flow 33 = .ok (.istore 8, 2) := by decide +kernel
theorem dX4_flow_35 : decode cX4_flow 35 = .ok (.aload_n 0, 1) := by decide +kernel
theorem dX4_flow_36 : decode cX4_flow 36 = .ok (.iload_n 1, 1) := by decide +kernel
theorem dX4_flow_37 : decode cX4_flow 37 = .ok (.iload 7, 2) := by decide +kernel
theorem dX4_flow_39 : decode cX4_flow 39 = .ok (.invokevirtual 40, 3) := by decide +kernel
theorem dX4_flow_42 : decode cX4_flow 42 = .ok (.iload 8, 2) := by decide +kernel
theorem dX4_flow_44 : decode cX4_flow 44 = .ok (.isub, 1) := by decide +kernel
theorem dX4_flow_45 : decode cX4_flow 45 = .ok (.iload 5, 2) := by decide +kernel
theorem dX4_flow_47 : decode cX4_flow 47 = .ok (.iadd, 1) := by decide +kernel
theorem dX4_flow_48 : decode cX4_flow 48 = .ok (.iload 6, 2) := by decide +kernel
theorem dX4_flow_50 : decode cX4_flow 50 = .ok (.iadd, 1) := by decide +kernel
theorem dX4_flow_51 : decode cX4_flow 51 = .ok (.iload 7, 2) := by decide +kernel
theorem dX4_flow_53 : decode cX4_flow 53 = .ok (.aload_n 3, 1) := by decide +kernel
theorem dX4_flow_54 : decode cX4_flow 54 = .ok (.arraylength, 1) := by decide +kernel
theorem dX4_flow_55 : decode cX4_flow 55 = .ok (.if_icmp .ge 10, 3) := by decide +kernel
theorem dX4_flow_58 : decode cX4_flow 58 = .ok (.aload_n 3, 1) := by decide +kernel
theorem dX4_flow_59 : decode cX4_flow 59 = .ok (.iload 7, 2) := by decide +kernel
theorem dX4_flow_61 : decode cX4_flow 61 = .ok (.iaload, 1) := by decide +kernel
theorem dX4_flow_62 : decode cX4_flow 62 = .ok (.goto 4, 3) := by decide +kernel
theorem dX4_flow_65 : decode cX4_flow 65 = .ok (.iconst 0, 1) := by decide +kernel
theorem dX4_flow_66 : decode cX4_flow 66 = .ok (.iadd, 1) := by decide +kernel
theorem dX4_flow_67 : decode cX4_flow 67 = .ok (.istore 9, 2) := by decide +kernel
theorem dX4_flow_69 : decode cX4_flow 69 = .ok (.iconst 0, 1) := by decide +kernel
theorem dX4_flow_70 : decode cX4_flow 70 = .ok (.iload 9, 2) := by decide +kernel
theorem dX4_flow_72 : decode cX4_flow 72 = .ok (.aload_n 0, 1) := by decide +kernel
theorem dX4_flow_73 : decode cX4_flow 73 = .ok (.getfield 11, 3) := by decide +kernel
theorem dX4_flow_76 : decode cX4_flow 76 = .ok (.iload 7, 2) := by decide +kernel
theorem dX4_flow_78 : decode cX4_flow 78 = .ok (.aaload, 1) := by decide +kernel
theorem dX4_flow_79 : decode cX4_flow 79 = .ok (.getfield 31, 3) := by decide +kernel
theorem dX4_flow_82 : decode cX4_flow 82 = .ok (.isub, 1) := by decide +kernel
theorem dX4_flow_83 : decode cX4_flow 83 = .ok (.invokestatic 66, 3) := by decide +kernel
theorem dX4_flow_86 : decode cX4_flow 86 = .ok (.istore 6, 2) := by decide +kernel
theorem dX4_flow_88 : decode cX4_flow 88 = .ok (.iload 7, 2) := by decide +kernel
theorem dX4_flow_90 : decode cX4_flow 90 = .ok (.aload_n 0, 1) := by decide +kernel
theorem dX4_flow_91 : decode cX4_flow 91 = .ok (.getfield 22, 3) := by decide +kernel
theorem dX4_flow_94 : decode cX4_flow 94 = .ok (.if_icmp .ge 14, 3) := by decide +kernel
theorem dX4_flow_97 : decode cX4_flow 97 = .ok (.aload_n 0, 1) := by decide +kernel
theorem dX4_flow_98 : decode cX4_flow 98 = .ok (.dup, 1) := by decide +kernel
theorem dX4_flow_99 : decode cX4_flow 99 = .ok (.getfield 63, 3) := by decide +kernel
theorem dX4_flow_102 : decode cX4_flow 102 = .ok (.iload 6, 2) := by decide +kernel
theorem dX4_flow_104 : decode cX4_flow 104 = .ok (.iadd, 1) := by decide +kernel
theorem dX4_flow_105 : decode cX4_flow 105 = .ok (.putfield 63, 3) := by decide +kernel
theorem dX4_flow_108 : decode cX4_flow 108 = .ok (.iload 4, 2) := by decide +kernel
theorem dX4_flow_110 : decode cX4_flow 110 = .ok (.aload_n 0, 1) := by decide +kernel
theorem dX4_flow_111 : decode cX4_flow 111 = .ok (.getfield 11, 3) := by decide +kernel
theorem dX4_flow_114 : decode cX4_flow 114 = .ok (.iload 7, 2) := by decide +kernel
theorem dX4_flow_116 : decode cX4_flow 116 = .ok (.aaload, 1) := by decide +kernel
theorem dX4_flow_117 : decode cX4_flow 117 = .ok (.getfield 31, 3) := by decide +kernel
theorem dX4_flow_120 : decode cX4_flow 120 = .ok (.iconst 1, 1) := by decide +kernel
theorem dX4_flow_121 : decode cX4_flow 121 = .ok (.iadd, 1) := by decide +kernel
theorem dX4_flow_122 : decode cX4_flow 122 = .ok (.imul, 1) := by decide +kernel
theorem dX4_flow_123 : decode cX4_flow 123 = .ok (.iload 9, 2) := by decide +kernel
theorem dX4_flow_125 : decode cX4_flow 125 = .ok (.iadd, 1) := by decide +kernel
theorem dX4_flow_126 : decode cX4_flow 126 = .ok (.iload 6, 2) := by decide +kernel
theorem dX4_flow_128 : decode cX4_flow 128 = .ok (.isub, 1) := by decide +kernel
theorem dX4_flow_129 : decode cX4_flow 129 = .ok (.istore 4, 2) := by decide +kernel
theorem dX4_flow_131 : decode cX4_flow 131 = .ok (.iload 8, 2) := by decide +kernel
theorem dX4_flow_133 : decode cX4_flow 133 = .ok (.istore 5, 2) := by decide +kernel
theorem dX4_flow_135 : decode cX4_flow 135 = .ok (.iinc 7 1, 3) := by decide +kernel
theorem dX4_flow_138 : decode cX4_flow 138 = .ok (.goto (-121), 3) := by decide +kernel
theorem dX4_flow_141 : decode cX4_flow 141 = .ok (.iload 4, 2) := by decide +kernel
theorem dX4_flow_143 : decode cX4_flow 143 = .ok (.ireturn, 1) := by decide +kernel
theorem dX5_init_0 : decode cX5_init 0 = .ok (.aload_n 0, 1) := by decide +kernel
theorem dX5_init_1 : decode cX5_init 1 = .ok (.invokespecial 3, 3) := by decide +kernel
theorem dX5_init_4 : decode cX5_init 4 = .ok (.aload_n 0, 1) := by decide +kernel
theorem dX5_init_5 : decode cX5_init 5 = .ok (.aload_n 1, 1) := by decide +kernel
theorem dX5_init_6 : decode cX5_init 6 = .ok (.putfield 9, 3) := by decide +kernel
theorem dX5_init_9 : decode cX5_init 9 = .ok (.aload_n 0, 1) := by decide +kernel
theorem dX5_init_10 : decode cX5_init 10 = .ok (.aload_n 2, 1) := by decide +kernel
theorem dX5_init_11 : decode cX5_init 11 = .ok (.putfield 15, 3) := by decide +kernel
theorem dX5_init_14 : decode cX5_init 14 = .ok (.return_, 1) := by decide +kernel
theorem dX5_go_0 : decode cX5_go 0 = .ok (.aload_n 1, 1) := by decide +kernel
theorem dX5_go_1 : decode cX5_go 1 = .ok (.ifnonnull 4, 3) := by decide +kernel
theorem dX5_go_4 : decode cX5_go 4 = .ok (.return_, 1) := by decide +kernel
theorem dX5_go_5 : decode cX5_go 5 = .ok (.iconst 0, 1) := by decide +kernel
theorem dX5_go_6 : decode cX5_go 6 = .ok (.istore_n 3, 1) := by decide +kernel
theorem dX5_go_7 : decode cX5_go 7 = .ok (.iload_n 3, 1) := by decide +kernel
theorem dX5_go_8 : decode cX5_go 8 = .ok (.aload_n 0, 1) := by decide +kernel
theorem dX5_go_9 : decode cX5_go 9 = .ok (.getfield 15, 3) := by decide +kernel
theorem dX5_go_12 : decode cX5_go 12 = .ok (.getfield 19, 3) := by decide +kernel
theorem dX5_go_15 : decode cX5_go 15 = .ok (.if_icmp .ge 22, 3) := by decide +kernel
theorem dX5_go_18 : decode cX5_go 18 = .ok (.aload_n 0, 1) := by decide +kernel
theorem dX5_go_19 : decode cX5_go 19 = .ok (.getfield 15, 3) := by decide +kernel
theorem dX5_go_22 : decode cX5_go 22 = .ok (.getfield 25, 3) := by decide +kernel
theorem dX5_go_25 : decode cX5_go 25 = .ok (.iload_n 3, 1) := by decide +kernel
theorem dX5_go_26 : decode cX5_go 26 = .ok (.aaload, 1) := by decide +kernel
theorem dX5_go_27 : decode cX5_go 27 = .ok (.iconst 0, 1) := by decide +kernel
theorem dX5_go_28 : decode cX5_go 28 = .ok (.putfield 29, 3) := by decide +kernel
theorem dX5_go_31 : decode cX5_go 31 = .ok (.iinc 3 1, 3) := by decide +kernel
theorem dX5_go_34 : decode cX5_go 34 = .ok (.goto (-27), 3) := by decide +kernel
theorem dX5_go_37 : decode cX5_go 37 = .ok (.aload_n 1, 1) := by decide +kernel
theorem dX5_go_38 : decode cX5_go 38 = .ok (.iconst 1, 1) := by decide +kernel
theorem dX5_go_39 : decode cX5_go 39 = .ok (.putfield 29, 3) := by decide +kernel
theorem dX5_go_42 : decode cX5_go 42 = .ok (.aload_n 1, 1) := by decide +kernel
theorem dX5_go_43 : decode cX5_go 43 = .ok (.iload_n 2, 1) := by decide +kernel
theorem dX5_go_44 : decode cX5_go 44 = .ok (.putfield 35, 3) := by decide +kernel
theorem dX5_go_47 : decode cX5_go 47 = .ok (.aload_n 1, 1) := by decide +kernel
theorem dX5_go_48 : decode cX5_go 48 = .ok (.iconst 0, 1) := by decide +kernel
theorem dX5_go_49 : decode cX5_go 49 = .ok (.putfield 38, 3) := by decide +kernel
theorem dX5_go_52 : decode cX5_go 52 = .ok (.aload_n 1, 1) := by decide +kernel
theorem dX5_go_53 : decode cX5_go 53 = .ok (.lconst 1, 1) := by decide +kernel
theorem dX5_go_54 : decode cX5_go 54 = .ok (.putfield 41, 3) := by decide +kernel
theorem dX5_go_57 : decode cX5_go 57 = .ok (.aload_n 1, 1) := by decide +kernel
theorem dX5_go_58 : decode cX5_go 58 = .ok (.iconst 0, 1) := by decide +kernel
theorem dX5_go_59 : decode cX5_go 59 = .ok (.putfield 45, 3) := by decide +kernel
theorem dX5_go_62 : decode cX5_go 62 = .ok (.iconst 1, 1) := by decide +kernel
theorem dX5_go_63 : decode cX5_go 63 = .ok (.istore_n 3, 1) := by decide +kernel
theorem dX5_go_64 : decode cX5_go 64 = .ok (.iload_n 3, 1) := by decide +kernel
theorem dX5_go_65 : decode cX5_go 65 = .ok (.aload_n 0, 1) := by decide +kernel
theorem dX5_go_66 : decode cX5_go 66 = .ok (.getfield 15, 3) := by decide +kernel
theorem dX5_go_69 : decode cX5_go 69 = .ok (.getfield 19, 3) := by decide +kernel
theorem dX5_go_72 : decode cX5_go 72 = .ok (.if_icmp .ge 50, 3) := by decide +kernel
theorem dX5_go_75 : decode cX5_go 75 = .ok (.aload_n 0, 1) := by decide +kernel
theorem dX5_go_76 : decode cX5_go 76 = .ok (.getfield 15, 3) := by decide +kernel
theorem dX5_go_79 : decode cX5_go 79 = .ok (.getfield 25, 3) := by decide +kernel
theorem dX5_go_82 : decode cX5_go 82 = .ok (.iload_n 3, 1) := by decide +kernel
theorem dX5_go_83 : decode cX5_go 83 = .ok (.aaload, 1) := by decide +kernel
theorem dX5_go_84 : decode cX5_go 84 = .ok (.astore 4, 2) := by decide +kernel
theorem dX5_go_86 : decode cX5_go 86 = .ok (.aload 4, 2) := by decide +kernel
theorem dX5_go_88 : decode cX5_go 88 = .ok (.getfield 48, 3) := by decide +kernel
theorem dX5_go_91 : decode cX5_go 91 = .ok (.ifnull 25, 3) := by decide +kernel
theorem dX5_go_94 : decode cX5_go 94 = .ok (.aload 4, 2) := by decide +kernel
theorem dX5_go_96 : decode cX5_go 96 = .ok (.getfield 48, 3) := by decide +kernel
theorem dX5_go_99 : decode cX5_go 99 = .ok (.getfield 29, 3) := by decide +kernel
theorem dX5_go_102 : decode cX5_go 102 = .ok (.ifCond .eq 14, 3) := by decide +kernel
theorem dX5_go_105 : decode cX5_go 105 = .ok (.aload_n 0, 1) := by decide +kernel
theorem dX5_go_106 : decode cX5_go 106 = .ok (.aload 4, 2) := by decide +kernel
theorem dX5_go_108 : decode cX5_go 108 = .ok (.aload 4, 2) := by decide +kernel
theorem dX5_go_110 : decode cX5_go 110 = .ok (.getfield 48, 3) := by decide +kernel
theorem dX5_go_113 : decode cX5_go 113 = .ok (.invokevirtual 52, 3) := by decide +kernel
theorem dX5_go_116 : decode cX5_go 116 = .ok (.iinc 3 1, 3) := by decide +kernel
theorem dX5_go_119 : decode cX5_go 119 = .ok (.goto (-55), 3) := by decide +kernel
theorem dX5_go_122 : decode cX5_go 122 = .ok (.return_, 1) := by decide +kernel
theorem dX5_stepTo_0 : decode cX5_stepTo 0 = .ok (.aload_n 0, 1) := by decide +kernel
theorem dX5_stepTo_1 : decode cX5_stepTo 1 = .ok (.getfield 9, 3) := by decide +kernel
theorem dX5_stepTo_4 : decode cX5_stepTo 4 = .ok (.aload_n 2, 1) := by decide +kernel
theorem dX5_stepTo_5 : decode cX5_stepTo 5 = .ok (.getfield 35, 3) := by decide +kernel
theorem dX5_stepTo_8 : decode cX5_stepTo 8 = .ok (.invokevirtual 56, 3) := by decide +kernel
theorem dX5_stepTo_11 : decode cX5_stepTo 11 = .ok (.istore_n 3, 1) := by decide +kernel
theorem dX5_stepTo_12 : decode cX5_stepTo 12 = .ok (.aload_n 1, 1) := by decide +kernel
theorem dX5_stepTo_13 : decode cX5_stepTo 13 = .ok (.iconst 1, 1) := by decide +kernel
theorem dX5_stepTo_14 : decode cX5_stepTo 14 = .ok (.putfield 29, 3) := by decide +kernel
theorem dX5_stepTo_17 : decode cX5_stepTo 17 = .ok (.aload_n 1, 1) := by decide +kernel
theorem dX5_stepTo_18 : decode cX5_stepTo 18 = .ok (.aload_n 0, 1) := by decide +kernel
theorem dX5_stepTo_19 : decode cX5_stepTo 19 = .ok (.getfield 9, 3) := by decide +kernel
theorem dX5_stepTo_22 : decode cX5_stepTo 22 = .ok (.aload_n 2, 1) := by decide +kernel
theorem dX5_stepTo_23 : decode cX5_stepTo 23 = .ok (.getfield 35, 3) := by decide +kernel
theorem dX5_stepTo_26 : decode cX5_stepTo 26 = .ok (.iload_n 3, 1) := by decide +kernel
theorem dX5_stepTo_27 : decode cX5_stepTo 27 = .ok (.aload_n 1, 1) := by decide +kernel
theorem dX5_stepTo_28 : decode cX5_stepTo 28 = .ok (.getfield 62, 3) := by decide +kernel
theorem dX5_stepTo_31 : decode cX5_stepTo 31 = .ok (.invokevirtual 66, 3) := by decide +kernel
theorem dX5_stepTo_34 : decode cX5_stepTo 34 = .ok (.putfield 35, 3) := by decide +kernel
theorem dX5_stepTo_37 : decode cX5_stepTo 37 = .ok (.aload_n 1, 1) := by decide +kernel
theorem dX5_stepTo_38 : decode cX5_stepTo 38 = .ok (.aload_n 2, 1) := by decide +kernel
theorem dX5_stepTo_39 : decode cX5_stepTo 39 = .ok (.getfield 38, 3) := by decide +kernel
theorem dX5_stepTo_42 : decode cX5_stepTo 42 = .ok (.aload_n 0, 1) := by decide +kernel
theorem dX5_stepTo_43 : decode cX5_stepTo 43 = .ok (.getfield 15, 3) := by decide +kernel
theorem dX5_stepTo_46 : decode cX5_stepTo 46 = .ok (.aload_n 2, 1) := by decide +kernel
theorem dX5_stepTo_47 : decode cX5_stepTo 47 = .ok (.invokevirtual 70, 3) := by decide +kernel
theorem dX5_stepTo_50 : decode cX5_stepTo 50 = .ok (.aload_n 0, 1) := by decide +kernel
theorem dX5_stepTo_51 : decode cX5_stepTo 51 = .ok (.getfield 9, 3) := by decide +kernel
theorem dX5_stepTo_54 : decode cX5_stepTo 54 = .ok (.aload_n 2, 1) := by decide +kernel
theorem dX5_stepTo_55 : decode cX5_stepTo 55 = .ok (.getfield 35, 3) := by decide +kernel
theorem dX5_stepTo_58 : decode cX5_stepTo 58 = .ok (.iload_n 3, 1) := by decide +kernel
theorem dX5_stepTo_59 : decode cX5_stepTo 59 = .ok (.invokevirtual 74, 3) := by decide +kernel
theorem dX5_stepTo_62 : decode cX5_stepTo 62 = .ok (.imul, 1) := by decide +kernel
theorem dX5_stepTo_63 : decode cX5_stepTo 63 = .ok (.iadd, 1) := by decide +kernel
theorem dX5_stepTo_64 : decode cX5_stepTo 64 = .ok (.putfield 38, 3) := by decide +kernel
theorem dX5_stepTo_67 : decode cX5_stepTo 67 = .ok (.aload_n 1, 1) := by decide +kernel
theorem dX5_stepTo_68 : decode cX5_stepTo 68 = .ok (.aload_n 2, 1) := by decide +kernel
theorem dX5_stepTo_69 : decode cX5_stepTo 69 = .ok (.getfield 41, 3) := by decide +kernel
theorem dX5_stepTo_72 : decode cX5_stepTo 72 = .ok (.aload_n 1, 1) := by decide +kernel
theorem dX5_stepTo_73 : decode cX5_stepTo 73 = .ok (.getfield 78, 3) := by decide +kernel
theorem dX5_stepTo_76 : decode cX5_stepTo 76 = .ok (.i2l, 1) := by decide +kernel
theorem dX5_stepTo_77 : decode cX5_stepTo 77 = .ok (.lmul, 1) := by decide +kernel
theorem dX5_stepTo_78 : decode cX5_stepTo 78 = .ok (.putfield 41, 3) := by decide +kernel
theorem dX5_stepTo_81 : decode cX5_stepTo 81 = .ok (.aload_n 1, 1) := by decide +kernel
theorem dX5_stepTo_82 : decode cX5_stepTo 82 = .ok (.aload_n 2, 1) := by decide +kernel
theorem dX5_stepTo_83 : decode cX5_stepTo 83 = .ok (.getfield 45, 3) := by decide +kernel
theorem dX5_stepTo_86 : decode cX5_stepTo 86 = .ok (.ifCond .ne 17, 3) := by decide +kernel
theorem dX5_stepTo_89 : decode cX5_stepTo 89 = .ok (.aload_n 0, 1) := by decide +kernel
theorem dX5_stepTo_90 : decode cX5_stepTo 90 = .ok (.getfield 9, 3) := by decide +kernel
theorem dX5_stepTo_93 : decode cX5_stepTo 93 = .ok (.aload_n 1, 1) := by decide +kernel
theorem dX5_stepTo_94 : decode cX5_stepTo 94 = .ok (.getfield 35, 3) := by decide +kernel
theorem dX5_stepTo_97 : decode cX5_stepTo 97 = .ok (.invokevirtual 81, 3) := by decide +kernel
theorem dX5_stepTo_100 : decode cX5_stepTo 100 = .ok (.ifCond .eq 7, 3) := by decide +kernel
theorem dX5_stepTo_103 : decode cX5_stepTo 103 = .ok (.iconst 1, 1) := by decide +kernel
theorem dX5_stepTo_104 : decode cX5_stepTo 104 = .ok (.goto 4, 3) := by decide +kernel
theorem dX5_stepTo_107 : decode cX5_stepTo 107 = .ok (.iconst 0, 1) := by decide +kernel
theorem dX5_stepTo_108 : decode cX5_stepTo 108 = .ok (.putfield 45, 3) := by decide +kernel
theorem dX5_stepTo_111 : decode cX5_stepTo 111 = .ok (.return_, 1) := by decide +kernel
theorem dX5_endsCase_0 : decode cX5_endsCase 0 = .ok (.aload_n 1, 1) := by decide +kernel
theorem dX5_endsCase_1 : decode cX5_endsCase 1 = .ok (.getfield 29, 3) := by decide +kernel
theorem dX5_endsCase_4 : decode cX5_endsCase 4 = .ok (.ifCond .eq 18, 3) := by decide +kernel
theorem dX5_endsCase_7 : decode cX5_endsCase 7 = .ok (.aload_n 0, 1) := by decide +kernel
theorem dX5_endsCase_8 : decode cX5_endsCase 8 = .ok (.getfield 15, 3) := by decide +kernel
theorem dX5_endsCase_11 : decode cX5_endsCase 11 = .ok (.aload_n 1, 1) := by decide +kernel
theorem dX5_endsCase_12 : decode cX5_endsCase 12 = .ok (.invokevirtual 85, 3) := by decide +kernel
theorem dX5_endsCase_15 : decode cX5_endsCase 15 = .ok (.ifCond .eq 7, 3) := by decide +kernel
theorem dX5_endsCase_18 : decode cX5_endsCase 18 = .ok (.iconst 1, 1) := by decide +kernel
theorem dX5_endsCase_19 : decode cX5_endsCase 19 = .ok (.goto 4, 3) := by decide +kernel
theorem dX5_endsCase_22 : decode cX5_endsCase 22 = .ok (.iconst 0, 1) := by decide +kernel
theorem dX5_endsCase_23 : decode cX5_endsCase 23 = .ok (.ireturn, 1) := by decide +kernel
theorem dX5_totalOf_0 : decode cX5_totalOf 0 = .ok (.aload_n 1, 1) := by decide +kernel
theorem dX5_totalOf_1 : decode cX5_totalOf 1 = .ok (.getfield 38, 3) := by decide +kernel
theorem dX5_totalOf_4 : decode cX5_totalOf 4 = .ok (.i2l, 1) := by decide +kernel
theorem dX5_totalOf_5 : decode cX5_totalOf 5 = .ok (.aload_n 0, 1) := by decide +kernel
theorem dX5_totalOf_6 : decode cX5_totalOf 6 = .ok (.getfield 9, 3) := by decide +kernel
theorem dX5_totalOf_9 : decode cX5_totalOf 9 = .ok (.aload_n 1, 1) := by decide +kernel
theorem dX5_totalOf_10 : decode cX5_totalOf 10 = .ok (.getfield 35, 3) := by decide +kernel
theorem dX5_totalOf_13 : decode cX5_totalOf 13 = .ok (.invokevirtual 89, 3) := by decide +kernel
theorem dX5_totalOf_16 : decode cX5_totalOf 16 = .ok (.ladd, 1) := by decide +kernel
theorem dX5_totalOf_17 : decode cX5_totalOf 17 = .ok (.lreturn, 1) := by decide +kernel
theorem dX5_allCases_0 : decode cX5_allCases 0 = .ok (.iconst 0, 1) := by decide +kernel
theorem dX5_allCases_1 : decode cX5_allCases 1 = .ok (.istore_n 1, 1) := by decide +kernel
theorem dX5_allCases_2 : decode cX5_allCases 2 = .ok (.iconst 0, 1) := by decide +kernel
theorem dX5_allCases_3 : decode cX5_allCases 3 = .ok (.istore_n 2, 1) := by decide +kernel
theorem dX5_allCases_4 : decode cX5_allCases 4 = .ok (.iload_n 2, 1) := by decide +kernel
theorem dX5_allCases_5 : decode cX5_allCases 5 = .ok (.aload_n 0, 1) := by decide +kernel
theorem dX5_allCases_6 : decode cX5_allCases 6 = .ok (.getfield 15, 3) := by decide +kernel
theorem dX5_allCases_9 : decode cX5_allCases 9 = .ok (.getfield 19, 3) := by decide +kernel
theorem dX5_allCases_12 : decode cX5_allCases 12 = .ok (.if_icmp .ge 28, 3) := by decide +kernel
theorem dX5_allCases_15 : decode cX5_allCases 15 = .ok (.aload_n 0, 1) := by decide +kernel
theorem dX5_allCases_16 : decode cX5_allCases 16 = .ok (.aload_n 0, 1) := by decide +kernel
theorem dX5_allCases_17 : decode cX5_allCases 17 = .ok (.getfield 15, 3) := by decide +kernel
theorem dX5_allCases_20 : decode cX5_allCases 20 = .ok (.getfield 25, 3) := by decide +kernel
theorem dX5_allCases_23 : decode cX5_allCases 23 = .ok (.iload_n 2, 1) := by decide +kernel
theorem dX5_allCases_24 : decode cX5_allCases 24 = .ok (.aaload, 1) := by decide +kernel
theorem dX5_allCases_25 : decode cX5_allCases 25 = .ok (.invokevirtual 93, 3) := by decide +kernel
theorem dX5_allCases_28 : decode cX5_allCases 28 = .ok (.ifCond .eq 6, 3) := by decide +kernel
theorem dX5_allCases_31 : decode cX5_allCases 31 = .ok (.iinc 1 1, 3) := by decide +kernel
theorem dX5_allCases_34 : decode cX5_allCases 34 = .ok (.iinc 2 1, 3) := by decide +kernel
theorem dX5_allCases_37 : decode cX5_allCases 37 = .ok (.goto (-33), 3) := by decide +kernel
theorem dX5_allCases_40 : decode cX5_allCases 40 = .ok (.iload_n 1, 1) := by decide +kernel
theorem dX5_allCases_41 : decode cX5_allCases 41 = .ok (.ireturn, 1) := by decide +kernel
theorem dX5_meanOfCases_0 : decode cX5_meanOfCases 0 = .ok (.lconst 0, 1) := by decide +kernel
theorem dX5_meanOfCases_1 : decode cX5_meanOfCases 1 = .ok (.lstore_n 1, 1) := by decide +kernel
theorem dX5_meanOfCases_2 : decode cX5_meanOfCases 2 = .ok (.iconst 0, 1) := by decide +kernel
theorem dX5_meanOfCases_3 : decode cX5_meanOfCases 3 = .ok (.istore_n 3, 1) := by decide +kernel
theorem dX5_meanOfCases_4 : decode cX5_meanOfCases 4 = .ok (.iload_n 3, 1) := by decide +kernel
theorem dX5_meanOfCases_5 : decode cX5_meanOfCases 5 = .ok (.aload_n 0, 1) := by decide +kernel
theorem dX5_meanOfCases_6 : decode cX5_meanOfCases 6 = .ok (.getfield 15, 3) := by decide +kernel
theorem dX5_meanOfCases_9 : decode cX5_meanOfCases 9 = .ok (.getfield 19, 3) := by decide +kernel
theorem dX5_meanOfCases_12 : decode cX5_meanOfCases 12 = .ok (.if_icmp .ge 44, 3) := by decide +kernel
theorem dX5_meanOfCases_15 : decode cX5_meanOfCases 15 = .ok (.aload_n 0, 1) := by decide +kernel
theorem dX5_meanOfCases_16 : decode cX5_meanOfCases 16 = .ok (.getfield 15, 3) := by decide +kernel
theorem dX5_meanOfCases_19 : decode cX5_meanOfCases 19 = .ok (.getfield 25, 3) := by decide +kernel
theorem dX5_meanOfCases_22 : decode cX5_meanOfCases 22 = .ok (.iload_n 3, 1) := by decide +kernel
theorem dX5_meanOfCases_23 : decode cX5_meanOfCases 23 = .ok (.aaload, 1) := by decide +kernel
theorem dX5_meanOfCases_24 : decode cX5_meanOfCases 24 = .ok (.astore 4, 2) := by decide +kernel
theorem dX5_meanOfCases_26 : decode cX5_meanOfCases 26 = .ok (.aload_n 0, 1) := by decide +kernel
theorem dX5_meanOfCases_27 : decode cX5_meanOfCases 27 = .ok (.aload 4, 2) := by decide +kernel
theorem dX5_meanOfCases_29 : decode cX5_meanOfCases 29 = .ok (.invokevirtual 93, 3) := by decide +kernel
theorem dX5_meanOfCases_32 : decode cX5_meanOfCases 32 = .ok (.ifCond .eq 18, 3) := by decide +kernel
theorem dX5_meanOfCases_35 : decode cX5_meanOfCases 35 = .ok (.lload_n 1, 1) := by decide +kernel
theorem dX5_meanOfCases_36 : decode cX5_meanOfCases 36 = .ok (.aload 4, 2) := by decide +kernel
theorem dX5_meanOfCases_38 : decode cX5_meanOfCases 38 = .ok (.getfield 41, 3) := by decide +kernel
theorem dX5_meanOfCases_41 : decode cX5_meanOfCases 41 = .ok (.aload_n 0, 1) := by decide +kernel
theorem dX5_meanOfCases_42 : decode cX5_meanOfCases 42 = .ok (.aload 4, 2) := by decide +kernel
theorem dX5_meanOfCases_44 : decode cX5_meanOfCases 44 = .ok (.invokevirtual 96, 3) := by decide +kernel
theorem dX5_meanOfCases_47 : decode cX5_meanOfCases 47 = .ok (.lmul, 1) := by decide +kernel
theorem dX5_meanOfCases_48 : decode cX5_meanOfCases 48 = .ok (.ladd, 1) := by decide +kernel
theorem dX5_meanOfCases_49 : decode cX5_meanOfCases 49 = .ok (.lstore_n 1, 1) := by decide +kernel
theorem dX5_meanOfCases_50 : decode cX5_meanOfCases 50 = .ok (.iinc 3 1, 3) := by decide +kernel
theorem dX5_meanOfCases_53 : decode cX5_meanOfCases 53 = .ok (.goto (-49), 3) := by decide +kernel
theorem dX5_meanOfCases_56 : decode cX5_meanOfCases 56 = .ok (.lload_n 1, 1) := by decide +kernel
theorem dX5_meanOfCases_57 : decode cX5_meanOfCases 57 = .ok (.lreturn, 1) := by decide +kernel
theorem dX5_leastOfCases_0 : decode cX5_leastOfCases 0 = .ok (.ldc2_w 100, 3) := by decide +kernel
theorem dX5_leastOfCases_3 : decode cX5_leastOfCases 3 = .ok (.lstore_n 1, 1) := by decide +kernel
theorem dX5_leastOfCases_4 : decode cX5_leastOfCases 4 = .ok (.iconst 0, 1) := by decide +kernel
theorem dX5_leastOfCases_5 : decode cX5_leastOfCases 5 = .ok (.istore_n 3, 1) := by decide +kernel
theorem dX5_leastOfCases_6 : decode cX5_leastOfCases 6 = .ok (.iload_n 3, 1) := by decide +kernel
theorem dX5_leastOfCases_7 : decode cX5_leastOfCases 7 = .ok (.aload_n 0, 1) := by decide +kernel
theorem dX5_leastOfCases_8 : decode cX5_leastOfCases 8 = .ok (.getfield 15, 3) := by decide +kernel
theorem dX5_leastOfCases_11 : decode cX5_leastOfCases 11 = .ok (.getfield 19, 3) := by decide +kernel
theorem dX5_leastOfCases_14 : decode cX5_leastOfCases 14 = .ok (.if_icmp .ge 53, 3) := by decide +kernel
theorem dX5_leastOfCases_17 : decode cX5_leastOfCases 17 = .ok (.aload_n 0, 1) := by decide +kernel
theorem dX5_leastOfCases_18 : decode cX5_leastOfCases 18 = .ok (.getfield 15, 3) := by decide +kernel
theorem dX5_leastOfCases_21 : decode cX5_leastOfCases 21 = .ok (.getfield 25, 3) := by decide +kernel
theorem dX5_leastOfCases_24 : decode cX5_leastOfCases 24 = .ok (.iload_n 3, 1) := by decide +kernel
theorem dX5_leastOfCases_25 : decode cX5_leastOfCases 25 = .ok (.aaload, 1) := by decide +kernel
theorem dX5_leastOfCases_26 : decode cX5_leastOfCases 26 = .ok (.astore 4, 2) := by decide +kernel
theorem dX5_leastOfCases_28 : decode cX5_leastOfCases 28 = .ok (.aload_n 0, 1) := by decide +kernel
theorem dX5_leastOfCases_29 : decode cX5_leastOfCases 29 = .ok (.aload 4, 2) := by decide +kernel
theorem dX5_leastOfCases_31 : decode cX5_leastOfCases 31 = .ok (.invokevirtual 93, 3) := by decide +kernel
theorem dX5_leastOfCases_34 : decode cX5_leastOfCases 34 = .ok (.ifCond .eq 27, 3) := by decide +kernel
theorem dX5_leastOfCases_37 : decode cX5_leastOfCases 37 = .ok (.lload_n 1, 1) := by decide +kernel
theorem dX5_leastOfCases_38 : decode cX5_leastOfCases 38 = .ok (.lconst 0, 1) := by decide +kernel
theorem dX5_leastOfCases_39 : decode cX5_leastOfCases 39 = .ok (.lcmp, 1) := by decide +kernel
theorem dX5_leastOfCases_40 : decode cX5_leastOfCases 40 = .ok (.ifCond .lt 14, 3) := by decide +kernel
theorem dX5_leastOfCases_43 : decode cX5_leastOfCases 43 = .ok (.aload_n 0, 1) := by decide +kernel
theorem dX5_leastOfCases_44 : decode cX5_leastOfCases 44 = .ok (.aload 4, 2) := by decide +kernel
theorem dX5_leastOfCases_46 : decode cX5_leastOfCases 46 = .ok (.invokevirtual 96, 3) := by decide +kernel
theorem dX5_leastOfCases_49 : decode cX5_leastOfCases 49 = .ok (.lload_n 1, 1) := by decide +kernel
theorem dX5_leastOfCases_50 : decode cX5_leastOfCases 50 = .ok (.lcmp, 1) := by decide +kernel
theorem dX5_leastOfCases_51 : decode cX5_leastOfCases 51 = .ok (.ifCond .ge 10, 3) := by decide +kernel
theorem dX5_leastOfCases_54 : decode cX5_leastOfCases 54 = .ok (.aload_n 0, 1) := by decide +kernel
theorem dX5_leastOfCases_55 : decode cX5_leastOfCases 55 = .ok (.aload 4, 2) := by decide +kernel
theorem dX5_leastOfCases_57 : decode cX5_leastOfCases 57 = .ok (.invokevirtual 96, 3) := by decide +kernel
theorem dX5_leastOfCases_60 : decode cX5_leastOfCases 60 = .ok (.lstore_n 1, 1) := by decide +kernel
theorem dX5_leastOfCases_61 : decode cX5_leastOfCases 61 = .ok (.iinc 3 1, 3) := by decide +kernel
theorem dX5_leastOfCases_64 : decode cX5_leastOfCases 64 = .ok (.goto (-58), 3) := by decide +kernel
theorem dX5_leastOfCases_67 : decode cX5_leastOfCases 67 = .ok (.lload_n 1, 1) := by decide +kernel
theorem dX5_leastOfCases_68 : decode cX5_leastOfCases 68 = .ok (.lreturn, 1) := by decide +kernel
theorem dX5_casesOfLack_0 : decode cX5_casesOfLack 0 = .ok (.iconst 0, 1) := by decide +kernel
theorem dX5_casesOfLack_1 : decode cX5_casesOfLack 1 = .ok (.istore_n 1, 1) := by decide +kernel
theorem dX5_casesOfLack_2 : decode cX5_casesOfLack 2 = .ok (.iconst 0, 1) := by decide +kernel
theorem dX5_casesOfLack_3 : decode cX5_casesOfLack 3 = .ok (.istore_n 2, 1) := by decide +kernel
theorem dX5_casesOfLack_4 : decode cX5_casesOfLack 4 = .ok (.iload_n 2, 1) := by decide +kernel
theorem dX5_casesOfLack_5 : decode cX5_casesOfLack 5 = .ok (.aload_n 0, 1) := by decide +kernel
theorem dX5_casesOfLack_6 : decode cX5_casesOfLack 6 = .ok (.getfield 15, 3) := by decide +kernel
theorem dX5_casesOfLack_9 : decode cX5_casesOfLack 9 = .ok (.getfield 19, 3) := by decide +kernel
theorem dX5_casesOfLack_12 : decode cX5_casesOfLack 12 = .ok (.if_icmp .ge 43, 3) := by decide +kernel
theorem dX5_casesOfLack_15 : decode cX5_casesOfLack 15 = .ok (.aload_n 0, 1) := by decide +kernel
theorem dX5_casesOfLack_16 : decode cX5_casesOfLack 16 = .ok (.aload_n 0, 1) := by decide +kernel
theorem dX5_casesOfLack_17 : decode cX5_casesOfLack 17 = .ok (.getfield 15, 3) := by decide +kernel
theorem dX5_casesOfLack_20 : decode cX5_casesOfLack 20 = .ok (.getfield 25, 3) := by decide +kernel
theorem dX5_casesOfLack_23 : decode cX5_casesOfLack 23 = .ok (.iload_n 2, 1) := by decide +kernel
theorem dX5_casesOfLack_24 : decode cX5_casesOfLack 24 = .ok (.aaload, 1) := by decide +kernel
theorem dX5_casesOfLack_25 : decode cX5_casesOfLack 25 = .ok (.invokevirtual 93, 3) := by decide +kernel
theorem dX5_casesOfLack_28 : decode cX5_casesOfLack 28 = .ok (.ifCond .eq 21, 3) := by decide +kernel
theorem dX5_casesOfLack_31 : decode cX5_casesOfLack 31 = .ok (.aload_n 0, 1) := by decide +kernel
theorem dX5_casesOfLack_32 : decode cX5_casesOfLack 32 = .ok (.getfield 15, 3) := by decide +kernel
theorem dX5_casesOfLack_35 : decode cX5_casesOfLack 35 = .ok (.getfield 25, 3) := by decide +kernel
theorem dX5_casesOfLack_38 : decode cX5_casesOfLack 38 = .ok (.iload_n 2, 1) := by decide +kernel
theorem dX5_casesOfLack_39 : decode cX5_casesOfLack 39 = .ok (.aaload, 1) := by decide +kernel
theorem dX5_casesOfLack_40 : decode cX5_casesOfLack 40 = .ok (.getfield 45, 3) := by decide +kernel
theorem dX5_casesOfLack_43 : decode cX5_casesOfLack 43 = .ok (.ifCond .eq 6, 3) := by decide +kernel
theorem dX5_casesOfLack_46 : decode cX5_casesOfLack 46 = .ok (.iinc 1 1, 3) := by decide +kernel
theorem dX5_casesOfLack_49 : decode cX5_casesOfLack 49 = .ok (.iinc 2 1, 3) := by decide +kernel
theorem dX5_casesOfLack_52 : decode cX5_casesOfLack 52 = .ok (.goto (-48), 3) := by decide +kernel
theorem dX5_casesOfLack_55 : decode cX5_casesOfLack 55 = .ok (.iload_n 1, 1) := by decide +kernel
theorem dX5_casesOfLack_56 : decode cX5_casesOfLack 56 = .ok (.ireturn, 1) := by decide +kernel
theorem dX5_casesOfFlood_0 : decode cX5_casesOfFlood 0 = .ok (.iconst 0, 1) := by decide +kernel
theorem dX5_casesOfFlood_1 : decode cX5_casesOfFlood 1 = .ok (.istore 4, 2) := by decide +kernel
theorem dX5_casesOfFlood_3 : decode cX5_casesOfFlood 3 = .ok (.iconst 0, 1) := by decide +kernel
theorem dX5_casesOfFlood_4 : decode cX5_casesOfFlood 4 = .ok (.istore 5, 2) := by decide +kernel
theorem dX5_casesOfFlood_6 : decode cX5_casesOfFlood 6 = .ok (.iload 5, 2) := by decide +kernel
theorem dX5_casesOfFlood_8 : decode cX5_casesOfFlood 8 = .ok (.aload_n 0, 1) := by decide +kernel
theorem dX5_casesOfFlood_9 : decode cX5_casesOfFlood 9 = .ok (.getfield 15, 3) := by decide +kernel
theorem dX5_casesOfFlood_12 : decode cX5_casesOfFlood 12 = .ok (.getfield 19, 3) := by decide +kernel
theorem dX5_casesOfFlood_15 : decode cX5_casesOfFlood 15 = .ok (.if_icmp .ge 49, 3) := by decide +kernel
theorem dX5_casesOfFlood_18 : decode cX5_casesOfFlood 18 = .ok (.aload_n 0, 1) := by decide +kernel
theorem dX5_casesOfFlood_19 : decode cX5_casesOfFlood 19 = .ok (.aload_n 0, 1) := by decide +kernel
theorem dX5_casesOfFlood_20 : decode cX5_casesOfFlood 20 = .ok (.getfield 15, 3) := by decide +kernel
theorem dX5_casesOfFlood_23 : decode cX5_casesOfFlood 23 = .ok (.getfield 25, 3) := by decide +kernel
theorem dX5_casesOfFlood_26 : decode cX5_casesOfFlood 26 = .ok (.iload 5, 2) := by decide +kernel
theorem dX5_casesOfFlood_28 : decode cX5_casesOfFlood 28 = .ok (.aaload, 1) := by decide +kernel
theorem dX5_casesOfFlood_29 : decode cX5_casesOfFlood 29 = .ok (.invokevirtual 93, 3) := by decide +kernel
theorem dX5_casesOfFlood_32 : decode cX5_casesOfFlood 32 = .ok (.ifCond .eq 26, 3) := by decide +kernel
theorem dX5_casesOfFlood_35 : decode cX5_casesOfFlood 35 = .ok (.aload_n 0, 1) := by decide +kernel
theorem dX5_casesOfFlood_36 : decode cX5_casesOfFlood 36 = .ok (.aload_n 0, 1) := by decide +kernel
theorem dX5_casesOfFlood_37 : decode cX5_casesOfFlood 37 = .ok (.getfield 15, 3) := by decide +kernel
theorem dX5_casesOfFlood_40 : decode cX5_casesOfFlood 40 = .ok (.getfield 25, 3) := by decide +kernel
theorem dX5_casesOfFlood_43 : decode cX5_casesOfFlood 43 = .ok (.iload 5, 2) := by decide +kernel
theorem dX5_casesOfFlood_45 : decode cX5_casesOfFlood 45 = .ok (.aaload, 1) := by decide +kernel
theorem dX5_casesOfFlood_46 : decode cX5_casesOfFlood 46 = .ok (.iload_n 1, 1) := by decide +kernel
theorem dX5_casesOfFlood_47 : decode cX5_casesOfFlood 47 = .ok (.iload_n 2, 1) := by decide +kernel
theorem dX5_casesOfFlood_48 : decode cX5_casesOfFlood 48 = .ok (.iload_n 3, 1) := by decide +kernel
theorem dX5_casesOfFlood_49 : decode cX5_casesOfFlood 49 = .ok (.invokevirtual 102, 3) := by decide +kernel
theorem dX5_casesOfFlood_52 : decode cX5_casesOfFlood 52 = .ok (.ifCond .eq 6, 3) := by decide +kernel
theorem dX5_casesOfFlood_55 : decode cX5_casesOfFlood 55 = .ok (.iinc 4 1, 3) := by decide +kernel
theorem dX5_casesOfFlood_58 : decode cX5_casesOfFlood 58 = .ok (.iinc 5 1, 3) := by decide +kernel
theorem dX5_casesOfFlood_61 : decode cX5_casesOfFlood 61 = .ok (.goto (-55), 3) := by decide +kernel
theorem dX5_casesOfFlood_64 : decode cX5_casesOfFlood 64 = .ok (.iload 4, 2) := by decide +kernel
theorem dX5_casesOfFlood_66 : decode cX5_casesOfFlood 66 = .ok (.ireturn, 1) := by decide +kernel
theorem dX5_stoodAbove_0 : decode cX5_stoodAbove 0 = .ok (.aload_n 1, 1) := by decide +kernel
theorem dX5_stoodAbove_1 : decode cX5_stoodAbove 1 = .ok (.astore 5, 2) := by decide +kernel
theorem dX5_stoodAbove_3 : decode cX5_stoodAbove 3 = .ok (.iconst 0, 1) := by decide +kernel
theorem dX5_stoodAbove_4 : decode cX5_stoodAbove 4 = .ok (.istore 6, 2) := by decide +kernel
theorem dX5_stoodAbove_6 : decode cX5_stoodAbove 6 = .ok (.iload 6, 2) := by decide +kernel
theorem dX5_stoodAbove_8 : decode cX5_stoodAbove 8 = .ok (.bipush 10, 2) := by decide +kernel
theorem dX5_stoodAbove_10 : decode cX5_stoodAbove 10 = .ok (.if_icmp .ge 34, 3) := by decide +kernel
theorem dX5_stoodAbove_13 : decode cX5_stoodAbove 13 = .ok (.aload 5, 2) := by decide +kernel
theorem dX5_stoodAbove_15 : decode cX5_stoodAbove 15 = .ok (.getfield 106, 3) := by decide +kernel
theorem dX5_stoodAbove_18 : decode cX5_stoodAbove 18 = .ok (.iload 4, 2) := by decide +kernel
theorem dX5_stoodAbove_20 : decode cX5_stoodAbove 20 = .ok (.if_icmp .le 24, 3) := by decide +kernel
theorem dX5_stoodAbove_23 : decode cX5_stoodAbove 23 = .ok (.aload 5, 2) := by decide +kernel
theorem dX5_stoodAbove_25 : decode cX5_stoodAbove 25 = .ok (.getfield 48, 3) := by decide +kernel
theorem dX5_stoodAbove_28 : decode cX5_stoodAbove 28 = .ok (.ifnull 16, 3) := by decide +kernel
theorem dX5_stoodAbove_31 : decode cX5_stoodAbove 31 = .ok (.aload 5, 2) := by decide +kernel
theorem dX5_stoodAbove_33 : decode cX5_stoodAbove 33 = .ok (.getfield 48, 3) := by decide +kernel
theorem dX5_stoodAbove_36 : decode cX5_stoodAbove 36 = .ok (.astore 5, 2) := by decide +kernel
theorem dX5_stoodAbove_38 : decode cX5_stoodAbove 38 = .ok (.iinc 6 1, 3) := by decide +kernel
theorem dX5_stoodAbove_41 : decode cX5_stoodAbove 41 = .ok (.goto (-35), 3) := by decide +kernel
theorem dX5_stoodAbove_44 : decode cX5_stoodAbove 44 = .ok (.aload_n 0, 1) := by decide +kernel
theorem dX5_stoodAbove_45 : decode cX5_stoodAbove 45 = .ok (.getfield 9, 3) := by decide +kernel
theorem dX5_stoodAbove_48 : decode cX5_stoodAbove 48 = .ok (.aload 5, 2) := by decide +kernel
theorem dX5_stoodAbove_50 : decode cX5_stoodAbove 50 = .ok (.getfield 35, 3) := by decide +kernel
theorem dX5_stoodAbove_53 : decode cX5_stoodAbove 53 = .ok (.iload_n 2, 1) := by decide +kernel
theorem dX5_stoodAbove_54 : decode cX5_stoodAbove 54 = .ok (.invokevirtual 109, 3) := by decide +kernel
theorem dX5_stoodAbove_57 : decode cX5_stoodAbove 57 = .ok (.iload_n 3, 1) := by decide +kernel
theorem dX5_stoodAbove_58 : decode cX5_stoodAbove 58 = .ok (.if_icmp .le 7, 3) := by decide +kernel
theorem dX5_stoodAbove_61 : decode cX5_stoodAbove 61 = .ok (.iconst 1, 1) := by decide +kernel
theorem dX5_stoodAbove_62 : decode cX5_stoodAbove 62 = .ok (.goto 4, 3) := by decide +kernel
theorem dX5_stoodAbove_65 : decode cX5_stoodAbove 65 = .ok (.iconst 0, 1) := by decide +kernel
theorem dX5_stoodAbove_66 : decode cX5_stoodAbove 66 = .ok (.ireturn, 1) := by decide +kernel
theorem dX6_init_0 : decode cX6_init 0 = .ok (.aload_n 0, 1) := by decide +kernel
theorem dX6_init_1 : decode cX6_init 1 = .ok (.invokespecial 1, 3) := by decide +kernel
theorem dX6_init_4 : decode cX6_init 4 = .ok (.aload_n 0, 1) := by decide +kernel
theorem dX6_init_5 : decode cX6_init 5 = .ok (.iconst 1, 1) := by decide +kernel
theorem dX6_init_6 : decode cX6_init 6 = .ok (.putfield 7, 3) := by decide +kernel
theorem dX6_init_9 : decode cX6_init 9 = .ok (.aload_n 0, 1) := by decide +kernel
theorem dX6_init_10 : decode cX6_init 10 = .ok (.aload_n 1, 1) := by decide +kernel
theorem dX6_init_11 : decode cX6_init 11 = .ok (.putfield 13, 3) := by decide +kernel
theorem dX6_init_14 : decode cX6_init 14 = .ok (.aload_n 0, 1) := by decide +kernel
theorem dX6_init_15 : decode cX6_init 15 = .ok (.aload_n 2, 1) := by decide +kernel
theorem dX6_init_16 : decode cX6_init 16 = .ok (.putfield 17, 3) := by decide +kernel
theorem dX6_init_19 : decode cX6_init 19 = .ok (.return_, 1) := by decide +kernel
theorem dX6_forget_0 : decode cX6_forget 0 = .ok (.aload_n 0, 1) := by decide +kernel
theorem dX6_forget_1 : decode cX6_forget 1 = .ok (.dup, 1) := by decide +kernel
theorem dX6_forget_2 : decode cX6_forget 2 = .ok (.getfield 7, 3) := by decide +kernel
theorem dX6_forget_5 : decode cX6_forget 5 = .ok (.iconst 1, 1) := by decide +kernel
theorem dX6_forget_6 : decode cX6_forget 6 = .ok (.iadd, 1) := by decide +kernel
theorem dX6_forget_7 : decode cX6_forget 7 = .ok (.putfield 7, 3) := by decide +kernel
theorem dX6_forget_10 : decode cX6_forget 10 = .ok (.return_, 1) := by decide +kernel
theorem dX6_bestLets_0 : decode cX6_bestLets 0 = .ok (.aload_n 0, 1) := by decide +kernel
theorem dX6_bestLets_1 : decode cX6_bestLets 1 = .ok (.aload_n 1, 1) := by decide +kernel
theorem dX6_bestLets_2 : decode cX6_bestLets 2 = .ok (.invokevirtual 21, 3) := by decide +kernel
theorem dX6_bestLets_5 : decode cX6_bestLets 5 = .ok (.aload_n 0, 1) := by decide +kernel
theorem dX6_bestLets_6 : decode cX6_bestLets 6 = .ok (.aload_n 1, 1) := by decide +kernel
theorem dX6_bestLets_7 : decode cX6_bestLets 7 = .ok (.iload_n 2, 1) := by decide +kernel
theorem dX6_bestLets_8 : decode cX6_bestLets 8 = .ok (.aload_n 0, 1) := by decide +kernel
theorem dX6_bestLets_9 : decode cX6_bestLets 9 = .ok (.getfield 17, 3) := by decide +kernel
theorem dX6_bestLets_12 : decode cX6_bestLets 12 = .ok (.aload_n 1, 1) := by decide +kernel
theorem dX6_bestLets_13 : decode cX6_bestLets 13 = .ok (.invokevirtual 25, 3) := by decide +kernel
theorem dX6_bestLets_16 : decode cX6_bestLets 16 = .ok (.invokevirtual 31, 3) := by decide +kernel
theorem dX6_bestLets_19 : decode cX6_bestLets 19 = .ok (.pop2, 1) := by decide +kernel
theorem dX6_bestLets_20 : decode cX6_bestLets 20 = .ok (.aload_n 0, 1) := by decide +kernel
theorem dX6_bestLets_21 : decode cX6_bestLets 21 = .ok (.getfield 35, 3) := by decide +kernel
theorem dX6_bestLets_24 : decode cX6_bestLets 24 = .ok (.ireturn, 1) := by decide +kernel
theorem dX6_worthAt_0 : decode cX6_worthAt 0 = .ok (.aload_n 0, 1) := by decide +kernel
theorem dX6_worthAt_1 : decode cX6_worthAt 1 = .ok (.aload_n 1, 1) := by decide +kernel
theorem dX6_worthAt_2 : decode cX6_worthAt 2 = .ok (.iload_n 2, 1) := by decide +kernel
theorem dX6_worthAt_3 : decode cX6_worthAt 3 = .ok (.aload_n 0, 1) := by decide +kernel
theorem dX6_worthAt_4 : decode cX6_worthAt 4 = .ok (.getfield 17, 3) := by decide +kernel
theorem dX6_worthAt_7 : decode cX6_worthAt 7 = .ok (.aload_n 1, 1) := by decide +kernel
theorem dX6_worthAt_8 : decode cX6_worthAt 8 = .ok (.invokevirtual 25, 3) := by decide +kernel
theorem dX6_worthAt_11 : decode cX6_worthAt 11 = .ok (.invokevirtual 38, 3) := by decide +kernel
theorem dX6_worthAt_14 : decode cX6_worthAt 14 = .ok (.lreturn, 1) := by decide +kernel
theorem dX6_worthOf_0 : decode cX6_worthOf 0 = .ok (.iload_n 3, 1) := by decide +kernel
theorem dX6_worthOf_1 : decode cX6_worthOf 1 = .ok (.ifCond .gt 12, 3) := by decide +kernel
theorem dX6_worthOf_4 : decode cX6_worthOf 4 = .ok (.aload_n 0, 1) := by decide +kernel
theorem dX6_worthOf_5 : decode cX6_worthOf 5 = .ok (.getfield 13, 3) := by decide +kernel
theorem dX6_worthOf_8 : decode cX6_worthOf 8 = .ok (.iload_n 2, 1) := by decide +kernel
theorem dX6_worthOf_9 : decode cX6_worthOf 9 = .ok (.invokevirtual 41, 3) := by decide +kernel
theorem dX6_worthOf_12 : decode cX6_worthOf 12 = .ok (.lreturn, 1) := by decide +kernel
theorem dX6_worthOf_13 : decode cX6_worthOf 13 = .ok (.aload_n 0, 1) := by decide +kernel
theorem dX6_worthOf_14 : decode cX6_worthOf 14 = .ok (.aload_n 1, 1) := by decide +kernel
theorem dX6_worthOf_15 : decode cX6_worthOf 15 = .ok (.invokevirtual 21, 3) := by decide +kernel
theorem dX6_worthOf_18 : decode cX6_worthOf 18 = .ok (.iload_n 2, 1) := by decide +kernel
theorem dX6_worthOf_19 : decode cX6_worthOf 19 = .ok (.ifCond .lt 12, 3) := by decide +kernel
theorem dX6_worthOf_22 : decode cX6_worthOf 22 = .ok (.iload_n 2, 1) := by decide +kernel
theorem dX6_worthOf_23 : decode cX6_worthOf 23 = .ok (.aload_n 1, 1) := by decide +kernel
theorem dX6_worthOf_24 : decode cX6_worthOf 24 = .ok (.getfield 47, 3) := by decide +kernel
theorem dX6_worthOf_27 : decode cX6_worthOf 27 = .ok (.arraylength, 1) := by decide +kernel
theorem dX6_worthOf_28 : decode cX6_worthOf 28 = .ok (.if_icmp .lt 5, 3) := by decide +kernel
theorem dX6_worthOf_31 : decode cX6_worthOf 31 = .ok (.lconst 0, 1) := by decide +kernel
theorem dX6_worthOf_32 : decode cX6_worthOf 32 = .ok (.lreturn, 1) := by decide +kernel
theorem dX6_worthOf_33 : decode cX6_worthOf 33 = .ok (.aload_n 1, 1) := by decide +kernel
theorem dX6_worthOf_34 : decode cX6_worthOf 34 = .ok (.getfield 47, 3) := by decide +kernel
theorem dX6_worthOf_37 : decode cX6_worthOf 37 = .ok (.iload_n 2, 1) := by decide +kernel
theorem dX6_worthOf_38 : decode cX6_worthOf 38 = .ok (.laload, 1) := by decide +kernel
theorem dX6_worthOf_39 : decode cX6_worthOf 39 = .ok (.ldc2_w 53, 3) := by decide +kernel
theorem dX6_worthOf_42 : decode cX6_worthOf 42 = .ok (.lcmp, 1) := by decide +kernel
theorem dX6_worthOf_43 : decode cX6_worthOf 43 = .ok (.ifCond .ne 16, 3) := by decide +kernel
theorem dX6_worthOf_46 : decode cX6_worthOf 46 = .ok (.aload_n 1, 1) := by decide +kernel
theorem dX6_worthOf_47 : decode cX6_worthOf 47 = .ok (.getfield 47, 3) := by decide +kernel
theorem dX6_worthOf_50 : decode cX6_worthOf 50 = .ok (.iload_n 2, 1) := by decide +kernel
theorem dX6_worthOf_51 : decode cX6_worthOf 51 = .ok (.aload_n 0, 1) := by decide +kernel
theorem dX6_worthOf_52 : decode cX6_worthOf 52 = .ok (.aload_n 1, 1) := by decide +kernel
theorem dX6_worthOf_53 : decode cX6_worthOf 53 = .ok (.iload_n 2, 1) := by decide +kernel
theorem dX6_worthOf_54 : decode cX6_worthOf 54 = .ok (.iload_n 3, 1) := by decide +kernel
theorem dX6_worthOf_55 : decode cX6_worthOf 55 = .ok (.invokevirtual 31, 3) := by decide +kernel
theorem dX6_worthOf_58 : decode cX6_worthOf 58 = .ok (.lastore, 1) := by decide +kernel
theorem dX6_worthOf_59 : decode cX6_worthOf 59 = .ok (.aload_n 1, 1) := by decide +kernel
theorem dX6_worthOf_60 : decode cX6_worthOf 60 = .ok (.getfield 47, 3) := by decide +kernel
theorem dX6_worthOf_63 : decode cX6_worthOf 63 = .ok (.iload_n 2, 1) := by decide +kernel
theorem dX6_worthOf_64 : decode cX6_worthOf 64 = .ok (.laload, 1) := by decide +kernel
theorem dX6_worthOf_65 : decode cX6_worthOf 65 = .ok (.lreturn, 1) := by decide +kernel
theorem dX6_refresh_0 : decode cX6_refresh 0 = .ok (.aload_n 1, 1) := by decide +kernel
theorem dX6_refresh_1 : decode cX6_refresh 1 = .ok (.getfield 55, 3) := by decide +kernel
theorem dX6_refresh_4 : decode cX6_refresh 4 = .ok (.aload_n 0, 1) := by decide +kernel
end
section
theorem dX6_refresh_5 : decode cX6_refresh 5 = .ok (.getfield 7, 3) := by decide +kernel
theorem dX6_refresh_8 : decode cX6_refresh 8 = .ok (.if_icmp .ne 18, 3) := by decide +kernel
theorem dX6_refresh_11 : decode cX6_refresh 11 = .ok (.aload_n 1, 1) := by decide +kernel
theorem dX6_refresh_12 : decode cX6_refresh 12 = .ok (.getfield 47, 3) := by decide +kernel
theorem dX6_refresh_15 : decode cX6_refresh 15 = .ok (.ifnull 11, 3) := by decide +kernel
theorem dX6_refresh_18 : decode cX6_refresh 18 = .ok (.aload_n 1, 1) := by decide +kernel
theorem dX6_refresh_19 : decode cX6_refresh 19 = .ok (.getfield 58, 3) := by decide +kernel
theorem dX6_refresh_22 : decode cX6_refresh 22 = .ok (.ifnull 4, 3) := by decide +kernel
theorem dX6_refresh_25 : decode cX6_refresh 25 = .ok (.return_, 1) := by decide +kernel
theorem dX6_refresh_26 : decode cX6_refresh 26 = .ok (.aload_n 1, 1) := by decide +kernel
theorem dX6_refresh_27 : decode cX6_refresh 27 = .ok (.getfield 47, 3) := by decide +kernel
theorem dX6_refresh_30 : decode cX6_refresh 30 = .ok (.ifnull 18, 3) := by decide +kernel
theorem dX6_refresh_33 : decode cX6_refresh 33 = .ok (.aload_n 1, 1) := by decide +kernel
theorem dX6_refresh_34 : decode cX6_refresh 34 = .ok (.getfield 47, 3) := by decide +kernel
theorem dX6_refresh_37 : decode cX6_refresh 37 = .ok (.arraylength, 1) := by decide +kernel
theorem dX6_refresh_38 : decode cX6_refresh 38 = .ok (.aload_n 0, 1) := by decide +kernel
theorem dX6_refresh_39 : decode cX6_refresh 39 = .ok (.getfield 13, 3) := by decide +kernel
theorem dX6_refresh_42 : decode cX6_refresh 42 = .ok (.getfield 61, 3) := by decide +kernel
theorem dX6_refresh_45 : decode cX6_refresh 45 = .ok (.if_icmp .eq 29, 3) := by decide +kernel
theorem dX6_refresh_48 : decode cX6_refresh 48 = .ok (.aload_n 1, 1) := by decide +kernel
theorem dX6_refresh_49 : decode cX6_refresh 49 = .ok (.aload_n 0, 1) := by decide +kernel
theorem dX6_refresh_50 : decode cX6_refresh 50 = .ok (.getfield 13, 3) := by decide +kernel
theorem dX6_refresh_53 : decode cX6_refresh 53 = .ok (.getfield 61, 3) := by decide +kernel
theorem dX6_refresh_56 : decode cX6_refresh 56 = .ok (.newarray .long, 2) := by decide +kernel
theorem dX6_refresh_58 : decode cX6_refresh 58 = .ok (.putfield 47, 3) := by decide +kernel
theorem dX6_refresh_61 : decode cX6_refresh 61 = .ok (.aload_n 1, 1) := by decide +kernel
theorem dX6_refresh_62 : decode cX6_refresh 62 = .ok (.aload_n 0, 1) := by decide +kernel
theorem dX6_refresh_63 : decode cX6_refresh 63 = .ok (.getfield 13, 3) := by decide +kernel
theorem dX6_refresh_66 : decode cX6_refresh 66 = .ok (.getfield 61, 3) := by decide +kernel
theorem dX6_refresh_69 : decode cX6_refresh 69 = .ok (.newarray .long, 2) := by decide +kernel
theorem dX6_refresh_71 : decode cX6_refresh 71 = .ok (.putfield 58, 3) := by decide +kernel
theorem dX6_refresh_74 : decode cX6_refresh 74 = .ok (.aload_n 1, 1) := by decide +kernel
theorem dX6_refresh_75 : decode cX6_refresh 75 = .ok (.getfield 47, 3) := by decide +kernel
theorem dX6_refresh_78 : decode cX6_refresh 78 = .ok (.ldc2_w 53, 3) := by decide +kernel
theorem dX6_refresh_81 : decode cX6_refresh 81 = .ok (.invokestatic 64, 3) := by decide +kernel
theorem dX6_refresh_84 : decode cX6_refresh 84 = .ok (.aload_n 1, 1) := by decide +kernel
theorem dX6_refresh_85 : decode cX6_refresh 85 = .ok (.getfield 58, 3) := by decide +kernel
theorem dX6_refresh_88 : decode cX6_refresh 88 = .ok (.ldc2_w 53, 3) := by decide +kernel
theorem dX6_refresh_91 : decode cX6_refresh 91 = .ok (.invokestatic 64, 3) := by decide +kernel
theorem dX6_refresh_94 : decode cX6_refresh 94 = .ok (.aload_n 1, 1) := by decide +kernel
theorem dX6_refresh_95 : decode cX6_refresh 95 = .ok (.aload_n 0, 1) := by decide +kernel
theorem dX6_refresh_96 : decode cX6_refresh 96 = .ok (.getfield 7, 3) := by decide +kernel
theorem dX6_refresh_99 : decode cX6_refresh 99 = .ok (.putfield 55, 3) := by decide +kernel
theorem dX6_refresh_102 : decode cX6_refresh 102 = .ok (.return_, 1) := by decide +kernel
theorem dX6_searchBest_0 : decode cX6_searchBest 0 = .ok (.aload_n 0, 1) := by decide +kernel
theorem dX6_searchBest_1 : decode cX6_searchBest 1 = .ok (.getfield 13, 3) := by decide +kernel
theorem dX6_searchBest_4 : decode cX6_searchBest 4 = .ok (.getfield 70, 3) := by decide +kernel
theorem dX6_searchBest_7 : decode cX6_searchBest 7 = .ok (.iconst 0, 1) := by decide +kernel
theorem dX6_searchBest_8 : decode cX6_searchBest 8 = .ok (.aaload, 1) := by decide +kernel
theorem dX6_searchBest_9 : decode cX6_searchBest 9 = .ok (.astore 4, 2) := by decide +kernel
theorem dX6_searchBest_11 : decode cX6_searchBest 11 = .ok (.aload_n 0, 1) := by decide +kernel
theorem dX6_searchBest_12 : decode cX6_searchBest 12 = .ok (.getfield 13, 3) := by decide +kernel
theorem dX6_searchBest_15 : decode cX6_searchBest 15 = .ok (.getfield 70, 3) := by decide +kernel
theorem dX6_searchBest_18 : decode cX6_searchBest 18 = .ok (.iconst 1, 1) := by decide +kernel
theorem dX6_searchBest_19 : decode cX6_searchBest 19 = .ok (.aaload, 1) := by decide +kernel
theorem dX6_searchBest_20 : decode cX6_searchBest 20 = .ok (.astore 5, 2) := by decide +kernel
theorem dX6_searchBest_22 : decode cX6_searchBest 22 = .ok (.aload_n 0, 1) := by decide +kernel
theorem dX6_searchBest_23 : decode cX6_searchBest 23 = .ok (.getfield 13, 3) := by decide +kernel
theorem dX6_searchBest_26 : decode cX6_searchBest 26 = .ok (.getfield 70, 3) := by decide +kernel
theorem dX6_searchBest_29 : decode cX6_searchBest 29 = .ok (.iconst 2, 1) := by decide +kernel
theorem dX6_searchBest_30 : decode cX6_searchBest 30 = .ok (.aaload, 1) := by decide +kernel
theorem dX6_searchBest_31 : decode cX6_searchBest 31 = .ok (.astore 6, 2) := by decide +kernel
theorem dX6_searchBest_33 : decode cX6_searchBest 33 = .ok (.aload_n 0, 1) := by decide +kernel
theorem dX6_searchBest_34 : decode cX6_searchBest 34 = .ok (.getfield 13, 3) := by decide +kernel
theorem dX6_searchBest_37 : decode cX6_searchBest 37 = .ok (.iload_n 2, 1) := by decide +kernel
theorem dX6_searchBest_38 : decode cX6_searchBest 38 = .ok (.iconst 0, 1) := by decide +kernel
theorem dX6_searchBest_39 : decode cX6_searchBest 39 = .ok (.invokevirtual 74, 3) := by decide +kernel
theorem dX6_searchBest_42 : decode cX6_searchBest 42 = .ok (.istore 7, 2) := by decide +kernel
theorem dX6_searchBest_44 : decode cX6_searchBest 44 = .ok (.aload_n 0, 1) := by decide +kernel
theorem dX6_searchBest_45 : decode cX6_searchBest 45 = .ok (.getfield 13, 3) := by decide +kernel
theorem dX6_searchBest_48 : decode cX6_searchBest 48 = .ok (.iload_n 2, 1) := by decide +kernel
theorem dX6_searchBest_49 : decode cX6_searchBest 49 = .ok (.iconst 1, 1) := by decide +kernel
theorem dX6_searchBest_50 : decode cX6_searchBest 50 = .ok (.invokevirtual 74, 3) := by decide +kernel
theorem dX6_searchBest_53 : decode cX6_searchBest 53 = .ok (.istore 8, 2) := by decide +kernel
theorem dX6_searchBest_55 : decode cX6_searchBest 55 = .ok (.aload_n 0, 1) := by decide +kernel
theorem dX6_searchBest_56 : decode cX6_searchBest 56 = .ok (.getfield 13, 3) := by decide +kernel
theorem dX6_searchBest_59 : decode cX6_searchBest 59 = .ok (.iload_n 2, 1) := by decide +kernel
theorem dX6_searchBest_60 : decode cX6_searchBest 60 = .ok (.iconst 2, 1) := by decide +kernel
theorem dX6_searchBest_61 : decode cX6_searchBest 61 = .ok (.invokevirtual 74, 3) := by decide +kernel
theorem dX6_searchBest_64 : decode cX6_searchBest 64 = .ok (.istore 9, 2) := by decide +kernel
theorem dX6_searchBest_66 : decode cX6_searchBest 66 = .ok (.aload_n 0, 1) := by decide +kernel
theorem dX6_searchBest_67 : decode cX6_searchBest 67 = .ok (.getfield 17, 3) := by decide +kernel
theorem dX6_searchBest_70 : decode cX6_searchBest 70 = .ok (.iload_n 3, 1) := by decide +kernel
theorem dX6_searchBest_71 : decode cX6_searchBest 71 = .ok (.invokevirtual 78, 3) := by decide +kernel
theorem dX6_searchBest_74 : decode cX6_searchBest 74 = .ok (.aload_n 0, 1) := by decide +kernel
theorem dX6_searchBest_75 : decode cX6_searchBest 75 = .ok (.getfield 17, 3) := by decide +kernel
theorem dX6_searchBest_78 : decode cX6_searchBest 78 = .ok (.aload_n 1, 1) := by decide +kernel
theorem dX6_searchBest_79 : decode cX6_searchBest 79 = .ok (.invokevirtual 81, 3) := by decide +kernel
theorem dX6_searchBest_82 : decode cX6_searchBest 82 = .ok (.i2l, 1) := by decide +kernel
theorem dX6_searchBest_83 : decode cX6_searchBest 83 = .ok (.lmul, 1) := by decide +kernel
theorem dX6_searchBest_84 : decode cX6_searchBest 84 = .ok (.lstore 10, 2) := by decide +kernel
theorem dX6_searchBest_86 : decode cX6_searchBest 86 = .ok (.lload 10, 2) := by decide +kernel
theorem dX6_searchBest_88 : decode cX6_searchBest 88 = .ok (.aload 4, 2) := by decide +kernel
theorem dX6_searchBest_90 : decode cX6_searchBest 90 = .ok (.iload 7, 2) := by decide +kernel
theorem dX6_searchBest_92 : decode cX6_searchBest 92 = .ok (.invokevirtual 84, 3) := by decide +kernel
theorem dX6_searchBest_95 : decode cX6_searchBest 95 = .ok (.i2l, 1) := by decide +kernel
theorem dX6_searchBest_96 : decode cX6_searchBest 96 = .ok (.lmul, 1) := by decide +kernel
theorem dX6_searchBest_97 : decode cX6_searchBest 97 = .ok (.lstore 12, 2) := by decide +kernel
theorem dX6_searchBest_99 : decode cX6_searchBest 99 = .ok (.lload 10, 2) := by decide +kernel
theorem dX6_searchBest_101 : decode cX6_searchBest 101 = .ok (.aload 5, 2) := by decide +kernel
theorem dX6_searchBest_103 : decode cX6_searchBest 103 = .ok (.iload 8, 2) := by decide +kernel
theorem dX6_searchBest_105 : decode cX6_searchBest 105 = .ok (.invokevirtual 84, 3) := by decide +kernel
theorem dX6_searchBest_108 : decode cX6_searchBest 108 = .ok (.i2l, 1) := by decide +kernel
theorem dX6_searchBest_109 : decode cX6_searchBest 109 = .ok (.lmul, 1) := by decide +kernel
theorem dX6_searchBest_110 : decode cX6_searchBest 110 = .ok (.lstore 14, 2) := by decide +kernel
theorem dX6_searchBest_112 : decode cX6_searchBest 112 = .ok (.lload 10, 2) := by decide +kernel
theorem dX6_searchBest_114 : decode cX6_searchBest 114 = .ok (.aload 6, 2) := by decide +kernel
theorem dX6_searchBest_116 : decode cX6_searchBest 116 = .ok (.iload 9, 2) := by decide +kernel
theorem dX6_searchBest_118 : decode cX6_searchBest 118 = .ok (.invokevirtual 84, 3) := by decide +kernel
theorem dX6_searchBest_121 : decode cX6_searchBest 121 = .ok (.i2l, 1) := by decide +kernel
theorem dX6_searchBest_122 : decode cX6_searchBest 122 = .ok (.lmul, 1) := by decide +kernel
theorem dX6_searchBest_123 : decode cX6_searchBest 123 = .ok (.lstore 16, 2) := by decide +kernel
theorem dX6_searchBest_125 : decode cX6_searchBest 125 = .ok (.aload 4, 2) := by decide +kernel
theorem dX6_searchBest_127 : decode cX6_searchBest 127 = .ok (.iload 7, 2) := by decide +kernel
theorem dX6_searchBest_129 : decode cX6_searchBest 129 = .ok (.invokevirtual 90, 3) := by decide +kernel
theorem dX6_searchBest_132 : decode cX6_searchBest 132 = .ok (.istore 18, 2) := by decide +kernel
theorem dX6_searchBest_134 : decode cX6_searchBest 134 = .ok (.aload 5, 2) := by decide +kernel
theorem dX6_searchBest_136 : decode cX6_searchBest 136 = .ok (.iload 8, 2) := by decide +kernel
theorem dX6_searchBest_138 : decode cX6_searchBest 138 = .ok (.invokevirtual 90, 3) := by decide +kernel
theorem dX6_searchBest_141 : decode cX6_searchBest 141 = .ok (.istore 19, 2) := by decide +kernel
theorem dX6_searchBest_143 : decode cX6_searchBest 143 = .ok (.aload 6, 2) := by decide +kernel
theorem dX6_searchBest_145 : decode cX6_searchBest 145 = .ok (.iload 9, 2) := by decide +kernel
theorem dX6_searchBest_147 : decode cX6_searchBest 147 = .ok (.invokevirtual 90, 3) := by decide +kernel
theorem dX6_searchBest_150 : decode cX6_searchBest 150 = .ok (.istore 20, 2) := by decide +kernel
theorem dX6_searchBest_152 : decode cX6_searchBest 152 = .ok (.aload 5, 2) := by decide +kernel
theorem dX6_searchBest_154 : decode cX6_searchBest 154 = .ok (.iload 8, 2) := by decide +kernel
theorem dX6_searchBest_156 : decode cX6_searchBest 156 = .ok (.invokevirtual 93, 3) := by decide +kernel
theorem dX6_searchBest_159 : decode cX6_searchBest 159 = .ok (.istore 21, 2) := by decide +kernel
theorem dX6_searchBest_161 : decode cX6_searchBest 161 = .ok (.aload 6, 2) := by decide +kernel
theorem dX6_searchBest_163 : decode cX6_searchBest 163 = .ok (.iload 9, 2) := by decide +kernel
theorem dX6_searchBest_165 : decode cX6_searchBest 165 = .ok (.invokevirtual 93, 3) := by decide +kernel
theorem dX6_searchBest_168 : decode cX6_searchBest 168 = .ok (.istore 22, 2) := by decide +kernel
theorem dX6_searchBest_170 : decode cX6_searchBest 170 = .ok (.ldc2_w 53, 3) := by decide +kernel
theorem dX6_searchBest_173 : decode cX6_searchBest 173 = .ok (.lstore 23, 2) := by decide +kernel
theorem dX6_searchBest_175 : decode cX6_searchBest 175 = .ok (.iconst 0, 1) := by decide +kernel
theorem dX6_searchBest_176 : decode cX6_searchBest 176 = .ok (.istore 25, 2) := by decide +kernel
theorem dX6_searchBest_178 : decode cX6_searchBest 178 = .ok (.aload 4, 2) := by decide +kernel
theorem dX6_searchBest_180 : decode cX6_searchBest 180 = .ok (.iload 7, 2) := by decide +kernel
theorem dX6_searchBest_182 : decode cX6_searchBest 182 = .ok (.invokevirtual 93, 3) := by decide +kernel
theorem dX6_searchBest_185 : decode cX6_searchBest 185 = .ok (.istore 26, 2) := by decide +kernel
theorem dX6_searchBest_187 : decode cX6_searchBest 187 = .ok (.iload 26, 2) := by decide +kernel
theorem dX6_searchBest_189 : decode cX6_searchBest 189 = .ok (.iload 18, 2) := by decide +kernel
theorem dX6_searchBest_191 : decode cX6_searchBest 191 = .ok (.if_icmp .gt 182, 3) := by decide +kernel
theorem dX6_searchBest_194 : decode cX6_searchBest 194 = .ok (.iload 21, 2) := by decide +kernel
theorem dX6_searchBest_196 : decode cX6_searchBest 196 = .ok (.istore 27, 2) := by decide +kernel
theorem dX6_searchBest_198 : decode cX6_searchBest 198 = .ok (.iload 27, 2) := by decide +kernel
theorem dX6_searchBest_200 : decode cX6_searchBest 200 = .ok (.iload 19, 2) := by decide +kernel
theorem dX6_searchBest_202 : decode cX6_searchBest 202 = .ok (.if_icmp .gt 165, 3) := by decide +kernel
theorem dX6_searchBest_205 : decode cX6_searchBest 205 = .ok (.iload 8, 2) := by decide +kernel
theorem dX6_searchBest_207 : decode cX6_searchBest 207 = .ok (.iload 27, 2) := by decide +kernel
theorem dX6_searchBest_209 : decode cX6_searchBest 209 = .ok (.isub, 1) := by decide +kernel
theorem dX6_searchBest_210 : decode cX6_searchBest 210 = .ok (.iload 26, 2) := by decide +kernel
theorem dX6_searchBest_212 : decode cX6_searchBest 212 = .ok (.iadd, 1) := by decide +kernel
theorem dX6_searchBest_213 : decode cX6_searchBest 213 = .ok (.aload 5, 2) := by decide +kernel
theorem dX6_searchBest_215 : decode cX6_searchBest 215 = .ok (.getfield 96, 3) := by decide +kernel
theorem dX6_searchBest_218 : decode cX6_searchBest 218 = .ok (.invokestatic 99, 3) := by decide +kernel
theorem dX6_searchBest_221 : decode cX6_searchBest 221 = .ok (.istore 28, 2) := by decide +kernel
theorem dX6_searchBest_223 : decode cX6_searchBest 223 = .ok (.iload 8, 2) := by decide +kernel
theorem dX6_searchBest_225 : decode cX6_searchBest 225 = .ok (.iload 27, 2) := by decide +kernel
theorem dX6_searchBest_227 : decode cX6_searchBest 227 = .ok (.isub, 1) := by decide +kernel
theorem dX6_searchBest_228 : decode cX6_searchBest 228 = .ok (.iload 26, 2) := by decide +kernel
theorem dX6_searchBest_230 : decode cX6_searchBest 230 = .ok (.iadd, 1) := by decide +kernel
theorem dX6_searchBest_231 : decode cX6_searchBest 231 = .ok (.iload 28, 2) := by decide +kernel
theorem dX6_searchBest_233 : decode cX6_searchBest 233 = .ok (.isub, 1) := by decide +kernel
theorem dX6_searchBest_234 : decode cX6_searchBest 234 = .ok (.istore 29, 2) := by decide +kernel
theorem dX6_searchBest_236 : decode cX6_searchBest 236 = .ok (.iload 7, 2) := by decide +kernel
theorem dX6_searchBest_238 : decode cX6_searchBest 238 = .ok (.iload 26, 2) := by decide +kernel
theorem dX6_searchBest_240 : decode cX6_searchBest 240 = .ok (.isub, 1) := by decide +kernel
theorem dX6_searchBest_241 : decode cX6_searchBest 241 = .ok (.aload 4, 2) := by decide +kernel
theorem dX6_searchBest_243 : decode cX6_searchBest 243 = .ok (.getfield 104, 3) := by decide +kernel
theorem dX6_searchBest_246 : decode cX6_searchBest 246 = .ok (.imul, 1) := by decide +kernel
theorem dX6_searchBest_247 : decode cX6_searchBest 247 = .ok (.iload 28, 2) := by decide +kernel
theorem dX6_searchBest_249 : decode cX6_searchBest 249 = .ok (.aload 5, 2) := by decide +kernel
theorem dX6_searchBest_251 : decode cX6_searchBest 251 = .ok (.getfield 104, 3) := by decide +kernel
theorem dX6_searchBest_254 : decode cX6_searchBest 254 = .ok (.imul, 1) := by decide +kernel
theorem dX6_searchBest_255 : decode cX6_searchBest 255 = .ok (.iadd, 1) := by decide +kernel
theorem dX6_searchBest_256 : decode cX6_searchBest 256 = .ok (.istore 30, 2) := by decide +kernel
theorem dX6_searchBest_258 : decode cX6_searchBest 258 = .ok (.lload 12, 2) := by decide +kernel
theorem dX6_searchBest_260 : decode cX6_searchBest 260 = .ok (.iload 26, 2) := by decide +kernel
theorem dX6_searchBest_262 : decode cX6_searchBest 262 = .ok (.i2l, 1) := by decide +kernel
theorem dX6_searchBest_263 : decode cX6_searchBest 263 = .ok (.lmul, 1) := by decide +kernel
theorem dX6_searchBest_264 : decode cX6_searchBest 264 = .ok (.lload 14, 2) := by decide +kernel
theorem dX6_searchBest_266 : decode cX6_searchBest 266 = .ok (.iload 27, 2) := by decide +kernel
theorem dX6_searchBest_268 : decode cX6_searchBest 268 = .ok (.i2l, 1) := by decide +kernel
theorem dX6_searchBest_269 : decode cX6_searchBest 269 = .ok (.lmul, 1) := by decide +kernel
theorem dX6_searchBest_270 : decode cX6_searchBest 270 = .ok (.ladd, 1) := by decide +kernel
theorem dX6_searchBest_271 : decode cX6_searchBest 271 = .ok (.lstore 31, 2) := by decide +kernel
theorem dX6_searchBest_273 : decode cX6_searchBest 273 = .ok (.iload 22, 2) := by decide +kernel
theorem dX6_searchBest_275 : decode cX6_searchBest 275 = .ok (.istore 33, 2) := by decide +kernel
theorem dX6_searchBest_277 : decode cX6_searchBest 277 = .ok (.iload 33, 2) := by decide +kernel
theorem dX6_searchBest_279 : decode cX6_searchBest 279 = .ok (.iload 20, 2) := by decide +kernel
theorem dX6_searchBest_281 : decode cX6_searchBest 281 = .ok (.if_icmp .gt 80, 3) := by decide +kernel
theorem dX6_searchBest_284 : decode cX6_searchBest 284 = .ok (.iload 9, 2) := by decide +kernel
theorem dX6_searchBest_286 : decode cX6_searchBest 286 = .ok (.iload 33, 2) := by decide +kernel
theorem dX6_searchBest_288 : decode cX6_searchBest 288 = .ok (.isub, 1) := by decide +kernel
theorem dX6_searchBest_289 : decode cX6_searchBest 289 = .ok (.iload 27, 2) := by decide +kernel
theorem dX6_searchBest_291 : decode cX6_searchBest 291 = .ok (.iadd, 1) := by decide +kernel
theorem dX6_searchBest_292 : decode cX6_searchBest 292 = .ok (.iload 29, 2) := by decide +kernel
theorem dX6_searchBest_294 : decode cX6_searchBest 294 = .ok (.iadd, 1) := by decide +kernel
theorem dX6_searchBest_295 : decode cX6_searchBest 295 = .ok (.aload 6, 2) := by decide +kernel
theorem dX6_searchBest_297 : decode cX6_searchBest 297 = .ok (.getfield 96, 3) := by decide +kernel
theorem dX6_searchBest_300 : decode cX6_searchBest 300 = .ok (.invokestatic 99, 3) := by decide +kernel
theorem dX6_searchBest_303 : decode cX6_searchBest 303 = .ok (.istore 34, 2) := by decide +kernel
theorem dX6_searchBest_305 : decode cX6_searchBest 305 = .ok (.lload 31, 2) := by decide +kernel
theorem dX6_searchBest_307 : decode cX6_searchBest 307 = .ok (.lload 16, 2) := by decide +kernel
theorem dX6_searchBest_309 : decode cX6_searchBest 309 = .ok (.iload 33, 2) := by decide +kernel
theorem dX6_searchBest_311 : decode cX6_searchBest 311 = .ok (.i2l, 1) := by decide +kernel
theorem dX6_searchBest_312 : decode cX6_searchBest 312 = .ok (.lmul, 1) := by decide +kernel
theorem dX6_searchBest_313 : decode cX6_searchBest 313 = .ok (.ladd, 1) := by decide +kernel
theorem dX6_searchBest_314 : decode cX6_searchBest 314 = .ok (.aload_n 0, 1) := by decide +kernel
theorem dX6_searchBest_315 : decode cX6_searchBest 315 = .ok (.aload_n 1, 1) := by decide +kernel
theorem dX6_searchBest_316 : decode cX6_searchBest 316 = .ok (.iload 30, 2) := by decide +kernel
theorem dX6_searchBest_318 : decode cX6_searchBest 318 = .ok (.iload 34, 2) := by decide +kernel
theorem dX6_searchBest_320 : decode cX6_searchBest 320 = .ok (.iadd, 1) := by decide +kernel
theorem dX6_searchBest_321 : decode cX6_searchBest 321 = .ok (.iload_n 3, 1) := by decide +kernel
theorem dX6_searchBest_322 : decode cX6_searchBest 322 = .ok (.invokevirtual 107, 3) := by decide +kernel
theorem dX6_searchBest_325 : decode cX6_searchBest 325 = .ok (.ladd, 1) := by decide +kernel
theorem dX6_searchBest_326 : decode cX6_searchBest 326 = .ok (.lstore 35, 2) := by decide +kernel
theorem dX6_searchBest_328 : decode cX6_searchBest 328 = .ok (.lload 35, 2) := by decide +kernel
theorem dX6_searchBest_330 : decode cX6_searchBest 330 = .ok (.lload 23, 2) := by decide +kernel
theorem dX6_searchBest_332 : decode cX6_searchBest 332 = .ok (.lcmp, 1) := by decide +kernel
theorem dX6_searchBest_333 : decode cX6_searchBest 333 = .ok (.ifCond .le 22, 3) := by decide +kernel
theorem dX6_searchBest_336 : decode cX6_searchBest 336 = .ok (.lload 35, 2) := by decide +kernel
theorem dX6_searchBest_338 : decode cX6_searchBest 338 = .ok (.lstore 23, 2) := by decide +kernel
theorem dX6_searchBest_340 : decode cX6_searchBest 340 = .ok (.iload 26, 2) := by decide +kernel
theorem dX6_searchBest_342 : decode cX6_searchBest 342 = .ok (.bipush 8, 2) := by decide +kernel
theorem dX6_searchBest_344 : decode cX6_searchBest 344 = .ok (.ishl, 1) := by decide +kernel
theorem dX6_searchBest_345 : decode cX6_searchBest 345 = .ok (.iload 27, 2) := by decide +kernel
theorem dX6_searchBest_347 : decode cX6_searchBest 347 = .ok (.iconst 4, 1) := by decide +kernel
theorem dX6_searchBest_348 : decode cX6_searchBest 348 = .ok (.ishl, 1) := by decide +kernel
theorem dX6_searchBest_349 : decode cX6_searchBest 349 = .ok (.ior, 1) := by decide +kernel
theorem dX6_searchBest_350 : decode cX6_searchBest 350 = .ok (.iload 33, 2) := by decide +kernel
theorem dX6_searchBest_352 : decode cX6_searchBest 352 = .ok (.ior, 1) := by decide +kernel
theorem dX6_searchBest_353 : decode cX6_searchBest 353 = .ok (.istore 25, 2) := by decide +kernel
theorem dX6_searchBest_355 : decode cX6_searchBest 355 = .ok (.iinc 33 1, 3) := by decide +kernel
theorem dX6_searchBest_358 : decode cX6_searchBest 358 = .ok (.goto (-81), 3) := by decide +kernel
theorem dX6_searchBest_361 : decode cX6_searchBest 361 = .ok (.iinc 27 1, 3) := by decide +kernel
theorem dX6_searchBest_364 : decode cX6_searchBest 364 = .ok (.goto (-166), 3) := by decide +kernel
theorem dX6_searchBest_367 : decode cX6_searchBest 367 = .ok (.iinc 26 1, 3) := by decide +kernel
theorem dX6_searchBest_370 : decode cX6_searchBest 370 = .ok (.goto (-183), 3) := by decide +kernel
theorem dX6_searchBest_373 : decode cX6_searchBest 373 = .ok (.aload_n 0, 1) := by decide +kernel
theorem dX6_searchBest_374 : decode cX6_searchBest 374 = .ok (.iload 25, 2) := by decide +kernel
theorem dX6_searchBest_376 : decode cX6_searchBest 376 = .ok (.putfield 35, 3) := by decide +kernel
theorem dX6_searchBest_379 : decode cX6_searchBest 379 = .ok (.lload 23, 2) := by decide +kernel
theorem dX6_searchBest_381 : decode cX6_searchBest 381 = .ok (.lreturn, 1) := by decide +kernel
theorem dX6_meanFrom_0 : decode cX6_meanFrom 0 = .ok (.aload_n 1, 1) := by decide +kernel
theorem dX6_meanFrom_1 : decode cX6_meanFrom 1 = .ok (.getfield 58, 3) := by decide +kernel
theorem dX6_meanFrom_4 : decode cX6_meanFrom 4 = .ok (.astore 4, 2) := by decide +kernel
theorem dX6_meanFrom_6 : decode cX6_meanFrom 6 = .ok (.aload 4, 2) := by decide +kernel
theorem dX6_meanFrom_8 : decode cX6_meanFrom 8 = .ok (.ifnull 14, 3) := by decide +kernel
theorem dX6_meanFrom_11 : decode cX6_meanFrom 11 = .ok (.iload_n 2, 1) := by decide +kernel
theorem dX6_meanFrom_12 : decode cX6_meanFrom 12 = .ok (.ifCond .lt 10, 3) := by decide +kernel
theorem dX6_meanFrom_15 : decode cX6_meanFrom 15 = .ok (.iload_n 2, 1) := by decide +kernel
theorem dX6_meanFrom_16 : decode cX6_meanFrom 16 = .ok (.aload 4, 2) := by decide +kernel
theorem dX6_meanFrom_18 : decode cX6_meanFrom 18 = .ok (.arraylength, 1) := by decide +kernel
theorem dX6_meanFrom_19 : decode cX6_meanFrom 19 = .ok (.if_icmp .lt 5, 3) := by decide +kernel
theorem dX6_meanFrom_22 : decode cX6_meanFrom 22 = .ok (.lconst 0, 1) := by decide +kernel
theorem dX6_meanFrom_23 : decode cX6_meanFrom 23 = .ok (.lreturn, 1) := by decide +kernel
theorem dX6_meanFrom_24 : decode cX6_meanFrom 24 = .ok (.aload 4, 2) := by decide +kernel
theorem dX6_meanFrom_26 : decode cX6_meanFrom 26 = .ok (.iload_n 2, 1) := by decide +kernel
theorem dX6_meanFrom_27 : decode cX6_meanFrom 27 = .ok (.laload, 1) := by decide +kernel
theorem dX6_meanFrom_28 : decode cX6_meanFrom 28 = .ok (.ldc2_w 53, 3) := by decide +kernel
theorem dX6_meanFrom_31 : decode cX6_meanFrom 31 = .ok (.lcmp, 1) := by decide +kernel
theorem dX6_meanFrom_32 : decode cX6_meanFrom 32 = .ok (.ifCond .ne 14, 3) := by decide +kernel
theorem dX6_meanFrom_35 : decode cX6_meanFrom 35 = .ok (.aload 4, 2) := by decide +kernel
theorem dX6_meanFrom_37 : decode cX6_meanFrom 37 = .ok (.iload_n 2, 1) := by decide +kernel
theorem dX6_meanFrom_38 : decode cX6_meanFrom 38 = .ok (.aload_n 0, 1) := by decide +kernel
theorem dX6_meanFrom_39 : decode cX6_meanFrom 39 = .ok (.aload_n 1, 1) := by decide +kernel
theorem dX6_meanFrom_40 : decode cX6_meanFrom 40 = .ok (.iload_n 2, 1) := by decide +kernel
theorem dX6_meanFrom_41 : decode cX6_meanFrom 41 = .ok (.iload_n 3, 1) := by decide +kernel
theorem dX6_meanFrom_42 : decode cX6_meanFrom 42 = .ok (.invokevirtual 110, 3) := by decide +kernel
theorem dX6_meanFrom_45 : decode cX6_meanFrom 45 = .ok (.lastore, 1) := by decide +kernel
theorem dX6_meanFrom_46 : decode cX6_meanFrom 46 = .ok (.aload 4, 2) := by decide +kernel
theorem dX6_meanFrom_48 : decode cX6_meanFrom 48 = .ok (.iload_n 2, 1) := by decide +kernel
theorem dX6_meanFrom_49 : decode cX6_meanFrom 49 = .ok (.laload, 1) := by decide +kernel
theorem dX6_meanFrom_50 : decode cX6_meanFrom 50 = .ok (.lreturn, 1) := by decide +kernel
theorem dX6_meanOfChildren_0 : decode cX6_meanOfChildren 0 = .ok (.lconst 0, 1) := by decide +kernel
theorem dX6_meanOfChildren_1 : decode cX6_meanOfChildren 1 = .ok (.lstore 4, 2) := by decide +kernel
theorem dX6_meanOfChildren_3 : decode cX6_meanOfChildren 3 = .ok (.iconst 0, 1) := by decide +kernel
theorem dX6_meanOfChildren_4 : decode cX6_meanOfChildren 4 = .ok (.istore 6, 2) := by decide +kernel
theorem dX6_meanOfChildren_6 : decode cX6_meanOfChildren 6 = .ok (.iload 6, 2) := by decide +kernel
theorem dX6_meanOfChildren_8 : decode cX6_meanOfChildren 8 = .ok (.aload_n 1, 1) := by decide +kernel
theorem dX6_meanOfChildren_9 : decode cX6_meanOfChildren 9 = .ok (.getfield 113, 3) := by decide +kernel
theorem dX6_meanOfChildren_12 : decode cX6_meanOfChildren 12 = .ok (.if_icmp .ge 60, 3) := by decide +kernel
theorem dX6_meanOfChildren_15 : decode cX6_meanOfChildren 15 = .ok (.aload_n 1, 1) := by decide +kernel
theorem dX6_meanOfChildren_16 : decode cX6_meanOfChildren 16 = .ok (.iload 6, 2) := by decide +kernel
theorem dX6_meanOfChildren_18 : decode cX6_meanOfChildren 18 = .ok (.invokevirtual 116, 3) := by decide +kernel
theorem dX6_meanOfChildren_21 : decode cX6_meanOfChildren 21 = .ok (.astore 7, 2) := by decide +kernel
theorem dX6_meanOfChildren_23 : decode cX6_meanOfChildren 23 = .ok (.aload 7, 2) := by decide +kernel
theorem dX6_meanOfChildren_25 : decode cX6_meanOfChildren 25 = .ok (.ifnonnull 6, 3) := by decide +kernel
theorem dX6_meanOfChildren_28 : decode cX6_meanOfChildren 28 = .ok (.goto 38, 3) := by decide +kernel
theorem dX6_meanOfChildren_31 : decode cX6_meanOfChildren 31 = .ok (.lload 4, 2) := by decide +kernel
theorem dX6_meanOfChildren_33 : decode cX6_meanOfChildren 33 = .ok (.aload 7, 2) := by decide +kernel
theorem dX6_meanOfChildren_35 : decode cX6_meanOfChildren 35 = .ok (.getfield 120, 3) := by decide +kernel
theorem dX6_meanOfChildren_38 : decode cX6_meanOfChildren 38 = .ok (.i2l, 1) := by decide +kernel
theorem dX6_meanOfChildren_39 : decode cX6_meanOfChildren 39 = .ok (.aload_n 0, 1) := by decide +kernel
theorem dX6_meanOfChildren_40 : decode cX6_meanOfChildren 40 = .ok (.aload 7, 2) := by decide +kernel
theorem dX6_meanOfChildren_42 : decode cX6_meanOfChildren 42 = .ok (.aload_n 0, 1) := by decide +kernel
theorem dX6_meanOfChildren_43 : decode cX6_meanOfChildren 43 = .ok (.getfield 13, 3) := by decide +kernel
theorem dX6_meanOfChildren_46 : decode cX6_meanOfChildren 46 = .ok (.iload_n 2, 1) := by decide +kernel
theorem dX6_meanOfChildren_47 : decode cX6_meanOfChildren 47 = .ok (.iconst 0, 1) := by decide +kernel
theorem dX6_meanOfChildren_48 : decode cX6_meanOfChildren 48 = .ok (.aload 7, 2) := by decide +kernel
theorem dX6_meanOfChildren_50 : decode cX6_meanOfChildren 50 = .ok (.getfield 123, 3) := by decide +kernel
theorem dX6_meanOfChildren_53 : decode cX6_meanOfChildren 53 = .ok (.invokevirtual 127, 3) := by decide +kernel
theorem dX6_meanOfChildren_56 : decode cX6_meanOfChildren 56 = .ok (.iload_n 3, 1) := by decide +kernel
theorem dX6_meanOfChildren_57 : decode cX6_meanOfChildren 57 = .ok (.iconst 1, 1) := by decide +kernel
theorem dX6_meanOfChildren_58 : decode cX6_meanOfChildren 58 = .ok (.isub, 1) := by decide +kernel
theorem dX6_meanOfChildren_59 : decode cX6_meanOfChildren 59 = .ok (.invokevirtual 38, 3) := by decide +kernel
theorem dX6_meanOfChildren_62 : decode cX6_meanOfChildren 62 = .ok (.lmul, 1) := by decide +kernel
theorem dX6_meanOfChildren_63 : decode cX6_meanOfChildren 63 = .ok (.ladd, 1) := by decide +kernel
theorem dX6_meanOfChildren_64 : decode cX6_meanOfChildren 64 = .ok (.lstore 4, 2) := by decide +kernel
theorem dX6_meanOfChildren_66 : decode cX6_meanOfChildren 66 = .ok (.iinc 6 1, 3) := by decide +kernel
theorem dX6_meanOfChildren_69 : decode cX6_meanOfChildren 69 = .ok (.goto (-63), 3) := by decide +kernel
theorem dX6_meanOfChildren_72 : decode cX6_meanOfChildren 72 = .ok (.lload 4, 2) := by decide +kernel
theorem dX6_meanOfChildren_74 : decode cX6_meanOfChildren 74 = .ok (.lreturn, 1) := by decide +kernel
theorem dX7_init_0 : decode cX7_init 0 = .ok (.aload_n 0, 1) := by decide +kernel
theorem dX7_init_1 : decode cX7_init 1 = .ok (.invokespecial 1, 3) := by decide +kernel
theorem dX7_init_4 : decode cX7_init 4 = .ok (.aload_n 0, 1) := by decide +kernel
theorem dX7_init_5 : decode cX7_init 5 = .ok (.new 7, 3) := by decide +kernel
theorem dX7_init_8 : decode cX7_init 8 = .ok (.dup, 1) := by decide +kernel
theorem dX7_init_9 : decode cX7_init 9 = .ok (.invokespecial 9, 3) := by decide +kernel
theorem dX7_init_12 : decode cX7_init 12 = .ok (.putfield 10, 3) := by decide +kernel
theorem dX7_init_15 : decode cX7_init 15 = .ok (.aload_n 0, 1) := by decide +kernel
theorem dX7_init_16 : decode cX7_init 16 = .ok (.new 16, 3) := by decide +kernel
theorem dX7_init_19 : decode cX7_init 19 = .ok (.dup, 1) := by decide +kernel
theorem dX7_init_20 : decode cX7_init 20 = .ok (.invokespecial 18, 3) := by decide +kernel
theorem dX7_init_23 : decode cX7_init 23 = .ok (.putfield 19, 3) := by decide +kernel
theorem dX7_init_26 : decode cX7_init 26 = .ok (.aload_n 0, 1) := by decide +kernel
theorem dX7_init_27 : decode cX7_init 27 = .ok (.new 23, 3) := by decide +kernel
theorem dX7_init_30 : decode cX7_init 30 = .ok (.dup, 1) := by decide +kernel
theorem dX7_init_31 : decode cX7_init 31 = .ok (.aload_n 0, 1) := by decide +kernel
theorem dX7_init_32 : decode cX7_init 32 = .ok (.getfield 10, 3) := by decide +kernel
theorem dX7_init_35 : decode cX7_init 35 = .ok (.aload_n 0, 1) := by decide +kernel
theorem dX7_init_36 : decode cX7_init 36 = .ok (.getfield 19, 3) := by decide +kernel
theorem dX7_init_39 : decode cX7_init 39 = .ok (.invokespecial 25, 3) := by decide +kernel
theorem dX7_init_42 : decode cX7_init 42 = .ok (.putfield 28, 3) := by decide +kernel
theorem dX7_init_45 : decode cX7_init 45 = .ok (.aload_n 0, 1) := by decide +kernel
theorem dX7_init_46 : decode cX7_init 46 = .ok (.new 32, 3) := by decide +kernel
theorem dX7_init_49 : decode cX7_init 49 = .ok (.dup, 1) := by decide +kernel
theorem dX7_init_50 : decode cX7_init 50 = .ok (.aload_n 0, 1) := by decide +kernel
theorem dX7_init_51 : decode cX7_init 51 = .ok (.getfield 10, 3) := by decide +kernel
theorem dX7_init_54 : decode cX7_init 54 = .ok (.aload_n 0, 1) := by decide +kernel
theorem dX7_init_55 : decode cX7_init 55 = .ok (.getfield 19, 3) := by decide +kernel
theorem dX7_init_58 : decode cX7_init 58 = .ok (.invokespecial 34, 3) := by decide +kernel
theorem dX7_init_61 : decode cX7_init 61 = .ok (.putfield 35, 3) := by decide +kernel
theorem dX7_init_64 : decode cX7_init 64 = .ok (.aload_n 0, 1) := by decide +kernel
theorem dX7_init_65 : decode cX7_init 65 = .ok (.new 39, 3) := by decide +kernel
theorem dX7_init_68 : decode cX7_init 68 = .ok (.dup, 1) := by decide +kernel
theorem dX7_init_69 : decode cX7_init 69 = .ok (.invokespecial 41, 3) := by decide +kernel
theorem dX7_init_72 : decode cX7_init 72 = .ok (.putfield 42, 3) := by decide +kernel
theorem dX7_init_75 : decode cX7_init 75 = .ok (.return_, 1) := by decide +kernel
theorem dX7_lake_0 : decode cX7_lake 0 = .ok (.iload_n 2, 1) := by decide +kernel
theorem dX7_lake_1 : decode cX7_lake 1 = .ok (.bipush 30, 2) := by decide +kernel
theorem dX7_lake_3 : decode cX7_lake 3 = .ok (.invokestatic 46, 3) := by decide +kernel
theorem dX7_lake_6 : decode cX7_lake 6 = .ok (.ifCond .eq 11, 3) := by decide +kernel
theorem dX7_lake_9 : decode cX7_lake 9 = .ok (.iload_n 1, 1) := by decide +kernel
theorem dX7_lake_10 : decode cX7_lake 10 = .ok (.iload_n 2, 1) := by decide +kernel
theorem dX7_lake_11 : decode cX7_lake 11 = .ok (.invokestatic 46, 3) := by decide +kernel
theorem dX7_lake_14 : decode cX7_lake 14 = .ok (.ifCond .ne 5, 3) := by decide +kernel
theorem dX7_lake_17 : decode cX7_lake 17 = .ok (.iconst (-1), 1) := by decide +kernel
theorem dX7_lake_18 : decode cX7_lake 18 = .ok (.ireturn, 1) := by decide +kernel
theorem dX7_lake_19 : decode cX7_lake 19 = .ok (.iload_n 3, 1) := by decide +kernel
theorem dX7_lake_20 : decode cX7_lake 20 = .ok (.bipush 10, 2) := by decide +kernel
theorem dX7_lake_22 : decode cX7_lake 22 = .ok (.invokestatic 46, 3) := by decide +kernel
theorem dX7_lake_25 : decode cX7_lake 25 = .ok (.ifCond .eq 12, 3) := by decide +kernel
theorem dX7_lake_28 : decode cX7_lake 28 = .ok (.iload 4, 2) := by decide +kernel
theorem dX7_lake_30 : decode cX7_lake 30 = .ok (.iconst 5, 1) := by decide +kernel
theorem dX7_lake_31 : decode cX7_lake 31 = .ok (.invokestatic 46, 3) := by decide +kernel
theorem dX7_lake_34 : decode cX7_lake 34 = .ok (.ifCond .ne 5, 3) := by decide +kernel
theorem dX7_lake_37 : decode cX7_lake 37 = .ok (.iconst (-1), 1) := by decide +kernel
theorem dX7_lake_38 : decode cX7_lake 38 = .ok (.ireturn, 1) := by decide +kernel
theorem dX7_lake_39 : decode cX7_lake 39 = .ok (.aload_n 0, 1) := by decide +kernel
theorem dX7_lake_40 : decode cX7_lake 40 = .ok (.getfield 10, 3) := by decide +kernel
theorem dX7_lake_43 : decode cX7_lake 43 = .ok (.getfield 50, 3) := by decide +kernel
theorem dX7_lake_46 : decode cX7_lake 46 = .ok (.iconst 3, 1) := by decide +kernel
theorem dX7_lake_47 : decode cX7_lake 47 = .ok (.if_icmp .lt 7, 3) := by decide +kernel
theorem dX7_lake_50 : decode cX7_lake 50 = .ok (.iconst 1, 1) := by decide +kernel
theorem dX7_lake_51 : decode cX7_lake 51 = .ok (.goto 4, 3) := by decide +kernel
theorem dX7_lake_54 : decode cX7_lake 54 = .ok (.iconst 0, 1) := by decide +kernel
theorem dX7_lake_55 : decode cX7_lake 55 = .ok (.istore 5, 2) := by decide +kernel
theorem dX7_lake_57 : decode cX7_lake 57 = .ok (.iload 5, 2) := by decide +kernel
theorem dX7_lake_59 : decode cX7_lake 59 = .ok (.ifCond .ne 22, 3) := by decide +kernel
theorem dX7_lake_62 : decode cX7_lake 62 = .ok (.aload_n 0, 1) := by decide +kernel
theorem dX7_lake_63 : decode cX7_lake 63 = .ok (.getfield 10, 3) := by decide +kernel
theorem dX7_lake_66 : decode cX7_lake 66 = .ok (.getfield 54, 3) := by decide +kernel
theorem dX7_lake_69 : decode cX7_lake 69 = .ok (.iload_n 2, 1) := by decide +kernel
theorem dX7_lake_70 : decode cX7_lake 70 = .ok (.iconst 1, 1) := by decide +kernel
theorem dX7_lake_71 : decode cX7_lake 71 = .ok (.iadd, 1) := by decide +kernel
theorem dX7_lake_72 : decode cX7_lake 72 = .ok (.imul, 1) := by decide +kernel
theorem dX7_lake_73 : decode cX7_lake 73 = .ok (.sipush 1000, 3) := by decide +kernel
theorem dX7_lake_76 : decode cX7_lake 76 = .ok (.if_icmp .le 5, 3) := by decide +kernel
theorem dX7_lake_79 : decode cX7_lake 79 = .ok (.iconst (-1), 1) := by decide +kernel
theorem dX7_lake_80 : decode cX7_lake 80 = .ok (.ireturn, 1) := by decide +kernel
theorem dX7_lake_81 : decode cX7_lake 81 = .ok (.aload_n 0, 1) := by decide +kernel
theorem dX7_lake_82 : decode cX7_lake 82 = .ok (.getfield 42, 3) := by decide +kernel
theorem dX7_lake_85 : decode cX7_lake 85 = .ok (.getfield 57, 3) := by decide +kernel
theorem dX7_lake_88 : decode cX7_lake 88 = .ok (.ifCond .eq 6, 3) := by decide +kernel
theorem dX7_lake_91 : decode cX7_lake 91 = .ok (.bipush (-2), 2) := by decide +kernel
theorem dX7_lake_93 : decode cX7_lake 93 = .ok (.ireturn, 1) := by decide +kernel
theorem dX7_lake_94 : decode cX7_lake 94 = .ok (.iload 5, 2) := by decide +kernel
theorem dX7_lake_96 : decode cX7_lake 96 = .ok (.ifCond .ne 14, 3) := by decide +kernel
theorem dX7_lake_99 : decode cX7_lake 99 = .ok (.aload_n 0, 1) := by decide +kernel
theorem dX7_lake_100 : decode cX7_lake 100 = .ok (.getfield 19, 3) := by decide +kernel
theorem dX7_lake_103 : decode cX7_lake 103 = .ok (.getfield 61, 3) := by decide +kernel
theorem dX7_lake_106 : decode cX7_lake 106 = .ok (.iconst 1, 1) := by decide +kernel
theorem dX7_lake_107 : decode cX7_lake 107 = .ok (.if_icmp .le 6, 3) := by decide +kernel
theorem dX7_lake_110 : decode cX7_lake 110 = .ok (.bipush (-5), 2) := by decide +kernel
theorem dX7_lake_112 : decode cX7_lake 112 = .ok (.ireturn, 1) := by decide +kernel
theorem dX7_lake_113 : decode cX7_lake 113 = .ok (.aload_n 0, 1) := by decide +kernel
theorem dX7_lake_114 : decode cX7_lake 114 = .ok (.getfield 28, 3) := by decide +kernel
theorem dX7_lake_117 : decode cX7_lake 117 = .ok (.invokevirtual 62, 3) := by decide +kernel
theorem dX7_lake_120 : decode cX7_lake 120 = .ok (.aload_n 0, 1) := by decide +kernel
theorem dX7_lake_121 : decode cX7_lake 121 = .ok (.getfield 10, 3) := by decide +kernel
theorem dX7_lake_124 : decode cX7_lake 124 = .ok (.iload_n 1, 1) := by decide +kernel
theorem dX7_lake_125 : decode cX7_lake 125 = .ok (.iload_n 2, 1) := by decide +kernel
theorem dX7_lake_126 : decode cX7_lake 126 = .ok (.iload_n 3, 1) := by decide +kernel
theorem dX7_lake_127 : decode cX7_lake 127 = .ok (.iload 4, 2) := by decide +kernel
theorem dX7_lake_129 : decode cX7_lake 129 = .ok (.invokevirtual 65, 3) := by decide +kernel
theorem dX7_lake_132 : decode cX7_lake 132 = .ok (.ireturn, 1) := by decide +kernel
theorem dX7_head_0 : decode cX7_head 0 = .ok (.aload_n 0, 1) := by decide +kernel
theorem dX7_head_1 : decode cX7_head 1 = .ok (.getfield 10, 3) := by decide +kernel
theorem dX7_head_4 : decode cX7_head 4 = .ok (.iload_n 1, 1) := by decide +kernel
theorem dX7_head_5 : decode cX7_head 5 = .ok (.invokevirtual 69, 3) := by decide +kernel
theorem dX7_head_8 : decode cX7_head 8 = .ok (.astore 4, 2) := by decide +kernel
theorem dX7_head_10 : decode cX7_head 10 = .ok (.aload 4, 2) := by decide +kernel
theorem dX7_head_12 : decode cX7_head 12 = .ok (.ifnull 24, 3) := by decide +kernel
theorem dX7_head_15 : decode cX7_head 15 = .ok (.iload_n 2, 1) := by decide +kernel
theorem dX7_head_16 : decode cX7_head 16 = .ok (.aload 4, 2) := by decide +kernel
theorem dX7_head_18 : decode cX7_head 18 = .ok (.getfield 73, 3) := by decide +kernel
theorem dX7_head_21 : decode cX7_head 21 = .ok (.invokestatic 46, 3) := by decide +kernel
theorem dX7_head_24 : decode cX7_head 24 = .ok (.ifCond .eq 12, 3) := by decide +kernel
theorem dX7_head_27 : decode cX7_head 27 = .ok (.iload_n 3, 1) := by decide +kernel
theorem dX7_head_28 : decode cX7_head 28 = .ok (.bipush 9, 2) := by decide +kernel
theorem dX7_head_30 : decode cX7_head 30 = .ok (.invokestatic 46, 3) := by decide +kernel
theorem dX7_head_33 : decode cX7_head 33 = .ok (.ifCond .ne 5, 3) := by decide +kernel
theorem dX7_head_36 : decode cX7_head 36 = .ok (.iconst (-1), 1) := by decide +kernel
theorem dX7_head_37 : decode cX7_head 37 = .ok (.ireturn, 1) := by decide +kernel
theorem dX7_head_38 : decode cX7_head 38 = .ok (.aload 4, 2) := by decide +kernel
theorem dX7_head_40 : decode cX7_head 40 = .ok (.iload_n 2, 1) := by decide +kernel
theorem dX7_head_41 : decode cX7_head 41 = .ok (.iload_n 3, 1) := by decide +kernel
theorem dX7_head_42 : decode cX7_head 42 = .ok (.invokevirtual 78, 3) := by decide +kernel
theorem dX7_head_45 : decode cX7_head 45 = .ok (.ifCond .ne 5, 3) := by decide +kernel
theorem dX7_head_48 : decode cX7_head 48 = .ok (.iconst (-1), 1) := by decide +kernel
theorem dX7_head_49 : decode cX7_head 49 = .ok (.ireturn, 1) := by decide +kernel
theorem dX7_head_50 : decode cX7_head 50 = .ok (.aload_n 0, 1) := by decide +kernel
theorem dX7_head_51 : decode cX7_head 51 = .ok (.getfield 42, 3) := by decide +kernel
theorem dX7_head_54 : decode cX7_head 54 = .ok (.getfield 57, 3) := by decide +kernel
theorem dX7_head_57 : decode cX7_head 57 = .ok (.ifCond .eq 6, 3) := by decide +kernel
theorem dX7_head_60 : decode cX7_head 60 = .ok (.bipush (-2), 2) := by decide +kernel
theorem dX7_head_62 : decode cX7_head 62 = .ok (.ireturn, 1) := by decide +kernel
theorem dX7_head_63 : decode cX7_head 63 = .ok (.aload 4, 2) := by decide +kernel
theorem dX7_head_65 : decode cX7_head 65 = .ok (.iload_n 2, 1) := by decide +kernel
theorem dX7_head_66 : decode cX7_head 66 = .ok (.invokevirtual 81, 3) := by decide +kernel
theorem dX7_head_69 : decode cX7_head 69 = .ok (.istore 5, 2) := by decide +kernel
theorem dX7_head_71 : decode cX7_head 71 = .ok (.aload 4, 2) := by decide +kernel
theorem dX7_head_73 : decode cX7_head 73 = .ok (.getfield 85, 3) := by decide +kernel
theorem dX7_head_76 : decode cX7_head 76 = .ok (.iload_n 2, 1) := by decide +kernel
theorem dX7_head_77 : decode cX7_head 77 = .ok (.iload_n 3, 1) := by decide +kernel
theorem dX7_head_78 : decode cX7_head 78 = .ok (.iastore, 1) := by decide +kernel
theorem dX7_head_79 : decode cX7_head 79 = .ok (.aload_n 0, 1) := by decide +kernel
theorem dX7_head_80 : decode cX7_head 80 = .ok (.getfield 28, 3) := by decide +kernel
theorem dX7_head_83 : decode cX7_head 83 = .ok (.invokevirtual 62, 3) := by decide +kernel
theorem dX7_head_86 : decode cX7_head 86 = .ok (.iload 5, 2) := by decide +kernel
theorem dX7_head_88 : decode cX7_head 88 = .ok (.ireturn, 1) := by decide +kernel
theorem dX7_end_0 : decode cX7_end 0 = .ok (.aload_n 0, 1) := by decide +kernel
theorem dX7_end_1 : decode cX7_end 1 = .ok (.getfield 10, 3) := by decide +kernel
theorem dX7_end_4 : decode cX7_end 4 = .ok (.iload_n 1, 1) := by decide +kernel
theorem dX7_end_5 : decode cX7_end 5 = .ok (.invokevirtual 69, 3) := by decide +kernel
theorem dX7_end_8 : decode cX7_end 8 = .ok (.astore_n 3, 1) := by decide +kernel
theorem dX7_end_9 : decode cX7_end 9 = .ok (.aload_n 3, 1) := by decide +kernel
theorem dX7_end_10 : decode cX7_end 10 = .ok (.ifnull 12, 3) := by decide +kernel
theorem dX7_end_13 : decode cX7_end 13 = .ok (.iload_n 2, 1) := by decide +kernel
theorem dX7_end_14 : decode cX7_end 14 = .ok (.bipush 99, 2) := by decide +kernel
theorem dX7_end_16 : decode cX7_end 16 = .ok (.invokestatic 46, 3) := by decide +kernel
theorem dX7_end_19 : decode cX7_end 19 = .ok (.ifCond .ne 5, 3) := by decide +kernel
theorem dX7_end_22 : decode cX7_end 22 = .ok (.iconst (-1), 1) := by decide +kernel
theorem dX7_end_23 : decode cX7_end 23 = .ok (.ireturn, 1) := by decide +kernel
theorem dX7_end_24 : decode cX7_end 24 = .ok (.aload_n 0, 1) := by decide +kernel
theorem dX7_end_25 : decode cX7_end 25 = .ok (.getfield 42, 3) := by decide +kernel
theorem dX7_end_28 : decode cX7_end 28 = .ok (.getfield 57, 3) := by decide +kernel
theorem dX7_end_31 : decode cX7_end 31 = .ok (.ifCond .eq 6, 3) := by decide +kernel
theorem dX7_end_34 : decode cX7_end 34 = .ok (.bipush (-2), 2) := by decide +kernel
theorem dX7_end_36 : decode cX7_end 36 = .ok (.ireturn, 1) := by decide +kernel
theorem dX7_end_37 : decode cX7_end 37 = .ok (.aload_n 3, 1) := by decide +kernel
theorem dX7_end_38 : decode cX7_end 38 = .ok (.getfield 89, 3) := by decide +kernel
theorem dX7_end_41 : decode cX7_end 41 = .ok (.istore 4, 2) := by decide +kernel
theorem dX7_end_43 : decode cX7_end 43 = .ok (.aload_n 3, 1) := by decide +kernel
theorem dX7_end_44 : decode cX7_end 44 = .ok (.iload_n 2, 1) := by decide +kernel
theorem dX7_end_45 : decode cX7_end 45 = .ok (.putfield 89, 3) := by decide +kernel
theorem dX7_end_48 : decode cX7_end 48 = .ok (.aload_n 0, 1) := by decide +kernel
theorem dX7_end_49 : decode cX7_end 49 = .ok (.getfield 28, 3) := by decide +kernel
theorem dX7_end_52 : decode cX7_end 52 = .ok (.invokevirtual 62, 3) := by decide +kernel
theorem dX7_end_55 : decode cX7_end 55 = .ok (.iload 4, 2) := by decide +kernel
theorem dX7_end_57 : decode cX7_end 57 = .ok (.ireturn, 1) := by decide +kernel
theorem dX7_weeks_0 : decode cX7_weeks 0 = .ok (.iload_n 1, 1) := by decide +kernel
theorem dX7_weeks_1 : decode cX7_weeks 1 = .ok (.iconst 1, 1) := by decide +kernel
theorem dX7_weeks_2 : decode cX7_weeks 2 = .ok (.if_icmp .lt 20, 3) := by decide +kernel
theorem dX7_weeks_5 : decode cX7_weeks 5 = .ok (.iload_n 1, 1) := by decide +kernel
theorem dX7_weeks_6 : decode cX7_weeks 6 = .ok (.bipush 10, 2) := by decide +kernel
theorem dX7_weeks_8 : decode cX7_weeks 8 = .ok (.if_icmp .gt 14, 3) := by decide +kernel
theorem dX7_weeks_11 : decode cX7_weeks 11 = .ok (.iload_n 2, 1) := by decide +kernel
theorem dX7_weeks_12 : decode cX7_weeks 12 = .ok (.iconst 1, 1) := by decide +kernel
theorem dX7_weeks_13 : decode cX7_weeks 13 = .ok (.if_icmp .lt 9, 3) := by decide +kernel
theorem dX7_weeks_16 : decode cX7_weeks 16 = .ok (.iload_n 2, 1) := by decide +kernel
theorem dX7_weeks_17 : decode cX7_weeks 17 = .ok (.bipush 6, 2) := by decide +kernel
theorem dX7_weeks_19 : decode cX7_weeks 19 = .ok (.if_icmp .le 5, 3) := by decide +kernel
theorem dX7_weeks_22 : decode cX7_weeks 22 = .ok (.iconst (-1), 1) := by decide +kernel
theorem dX7_weeks_23 : decode cX7_weeks 23 = .ok (.ireturn, 1) := by decide +kernel
theorem dX7_weeks_24 : decode cX7_weeks 24 = .ok (.aload_n 0, 1) := by decide +kernel
theorem dX7_weeks_25 : decode cX7_weeks 25 = .ok (.getfield 42, 3) := by decide +kernel
theorem dX7_weeks_28 : decode cX7_weeks 28 = .ok (.getfield 57, 3) := by decide +kernel
theorem dX7_weeks_31 : decode cX7_weeks 31 = .ok (.ifCond .eq 6, 3) := by decide +kernel
theorem dX7_weeks_34 : decode cX7_weeks 34 = .ok (.bipush (-2), 2) := by decide +kernel
theorem dX7_weeks_36 : decode cX7_weeks 36 = .ok (.ireturn, 1) := by decide +kernel
theorem dX7_weeks_37 : decode cX7_weeks 37 = .ok (.aload_n 0, 1) := by decide +kernel
theorem dX7_weeks_38 : decode cX7_weeks 38 = .ok (.getfield 19, 3) := by decide +kernel
theorem dX7_weeks_41 : decode cX7_weeks 41 = .ok (.iload_n 1, 1) := by decide +kernel
theorem dX7_weeks_42 : decode cX7_weeks 42 = .ok (.iload_n 2, 1) := by decide +kernel
theorem dX7_weeks_43 : decode cX7_weeks 43 = .ok (.invokevirtual 92, 3) := by decide +kernel
theorem dX7_weeks_46 : decode cX7_weeks 46 = .ok (.aload_n 0, 1) := by decide +kernel
theorem dX7_weeks_47 : decode cX7_weeks 47 = .ok (.getfield 28, 3) := by decide +kernel
theorem dX7_weeks_50 : decode cX7_weeks 50 = .ok (.invokevirtual 62, 3) := by decide +kernel
theorem dX7_weeks_53 : decode cX7_weeks 53 = .ok (.iconst 1, 1) := by decide +kernel
theorem dX7_weeks_54 : decode cX7_weeks 54 = .ok (.ireturn, 1) := by decide +kernel
theorem dX7_price_0 : decode cX7_price 0 = .ok (.iload_n 1, 1) := by decide +kernel
theorem dX7_price_1 : decode cX7_price 1 = .ok (.bipush 9, 2) := by decide +kernel
theorem dX7_price_3 : decode cX7_price 3 = .ok (.invokestatic 46, 3) := by decide +kernel
theorem dX7_price_6 : decode cX7_price 6 = .ok (.ifCond .eq 12, 3) := by decide +kernel
theorem dX7_price_9 : decode cX7_price 9 = .ok (.iload_n 2, 1) := by decide +kernel
theorem dX7_price_10 : decode cX7_price 10 = .ok (.bipush 20, 2) := by decide +kernel
theorem dX7_price_12 : decode cX7_price 12 = .ok (.invokestatic 46, 3) := by decide +kernel
theorem dX7_price_15 : decode cX7_price 15 = .ok (.ifCond .ne 5, 3) := by decide +kernel
theorem dX7_price_18 : decode cX7_price 18 = .ok (.iconst (-1), 1) := by decide +kernel
theorem dX7_price_19 : decode cX7_price 19 = .ok (.ireturn, 1) := by decide +kernel
theorem dX7_price_20 : decode cX7_price 20 = .ok (.aload_n 0, 1) := by decide +kernel
theorem dX7_price_21 : decode cX7_price 21 = .ok (.getfield 42, 3) := by decide +kernel
theorem dX7_price_24 : decode cX7_price 24 = .ok (.getfield 57, 3) := by decide +kernel
theorem dX7_price_27 : decode cX7_price 27 = .ok (.ifCond .eq 6, 3) := by decide +kernel
theorem dX7_price_30 : decode cX7_price 30 = .ok (.bipush (-2), 2) := by decide +kernel
theorem dX7_price_32 : decode cX7_price 32 = .ok (.ireturn, 1) := by decide +kernel
theorem dX7_price_33 : decode cX7_price 33 = .ok (.aload_n 0, 1) := by decide +kernel
theorem dX7_price_34 : decode cX7_price 34 = .ok (.getfield 19, 3) := by decide +kernel
theorem dX7_price_37 : decode cX7_price 37 = .ok (.getfield 96, 3) := by decide +kernel
theorem dX7_price_40 : decode cX7_price 40 = .ok (.iload_n 1, 1) := by decide +kernel
theorem dX7_price_41 : decode cX7_price 41 = .ok (.iaload, 1) := by decide +kernel
theorem dX7_price_42 : decode cX7_price 42 = .ok (.istore_n 3, 1) := by decide +kernel
theorem dX7_price_43 : decode cX7_price 43 = .ok (.aload_n 0, 1) := by decide +kernel
theorem dX7_price_44 : decode cX7_price 44 = .ok (.getfield 19, 3) := by decide +kernel
theorem dX7_price_47 : decode cX7_price 47 = .ok (.getfield 96, 3) := by decide +kernel
theorem dX7_price_50 : decode cX7_price 50 = .ok (.iload_n 1, 1) := by decide +kernel
theorem dX7_price_51 : decode cX7_price 51 = .ok (.iload_n 2, 1) := by decide +kernel
theorem dX7_price_52 : decode cX7_price 52 = .ok (.iastore, 1) := by decide +kernel
theorem dX7_price_53 : decode cX7_price 53 = .ok (.aload_n 0, 1) := by decide +kernel
theorem dX7_price_54 : decode cX7_price 54 = .ok (.getfield 28, 3) := by decide +kernel
theorem dX7_price_57 : decode cX7_price 57 = .ok (.invokevirtual 62, 3) := by decide +kernel
theorem dX7_price_60 : decode cX7_price 60 = .ok (.iload_n 3, 1) := by decide +kernel
theorem dX7_price_61 : decode cX7_price 61 = .ok (.ireturn, 1) := by decide +kernel
theorem dX7_node_0 : decode cX7_node 0 = .ok (.aload_n 0, 1) := by decide +kernel
theorem dX7_node_1 : decode cX7_node 1 = .ok (.getfield 19, 3) := by decide +kernel
theorem dX7_node_4 : decode cX7_node 4 = .ok (.iload_n 1, 1) := by decide +kernel
theorem dX7_node_5 : decode cX7_node 5 = .ok (.invokevirtual 99, 3) := by decide +kernel
theorem dX7_node_8 : decode cX7_node 8 = .ok (.astore 4, 2) := by decide +kernel
theorem dX7_node_10 : decode cX7_node 10 = .ok (.aload 4, 2) := by decide +kernel
theorem dX7_node_12 : decode cX7_node 12 = .ok (.ifnull 15, 3) := by decide +kernel
theorem dX7_node_15 : decode cX7_node 15 = .ok (.aload_n 0, 1) := by decide +kernel
theorem dX7_node_16 : decode cX7_node 16 = .ok (.getfield 19, 3) := by decide +kernel
theorem dX7_node_19 : decode cX7_node 19 = .ok (.aload 4, 2) := by decide +kernel
theorem dX7_node_21 : decode cX7_node 21 = .ok (.invokevirtual 103, 3) := by decide +kernel
theorem dX7_node_24 : decode cX7_node 24 = .ok (.ifCond .eq 5, 3) := by decide +kernel
theorem dX7_node_27 : decode cX7_node 27 = .ok (.iconst (-1), 1) := by decide +kernel
theorem dX7_node_28 : decode cX7_node 28 = .ok (.ireturn, 1) := by decide +kernel
theorem dX7_node_29 : decode cX7_node 29 = .ok (.iload_n 2, 1) := by decide +kernel
theorem dX7_node_30 : decode cX7_node 30 = .ok (.iconst 1, 1) := by decide +kernel
theorem dX7_node_31 : decode cX7_node 31 = .ok (.if_icmp .lt 20, 3) := by decide +kernel
theorem dX7_node_34 : decode cX7_node 34 = .ok (.iload_n 2, 1) := by decide +kernel
theorem dX7_node_35 : decode cX7_node 35 = .ok (.aload_n 0, 1) := by decide +kernel
theorem dX7_node_36 : decode cX7_node 36 = .ok (.getfield 19, 3) := by decide +kernel
theorem dX7_node_39 : decode cX7_node 39 = .ok (.getfield 107, 3) := by decide +kernel
theorem dX7_node_42 : decode cX7_node 42 = .ok (.aload 4, 2) := by decide +kernel
theorem dX7_node_44 : decode cX7_node 44 = .ok (.getfield 110, 3) := by decide +kernel
theorem dX7_node_47 : decode cX7_node 47 = .ok (.isub, 1) := by decide +kernel
theorem dX7_node_48 : decode cX7_node 48 = .ok (.if_icmp .le 5, 3) := by decide +kernel
theorem dX7_node_51 : decode cX7_node 51 = .ok (.iconst (-1), 1) := by decide +kernel
theorem dX7_node_52 : decode cX7_node 52 = .ok (.ireturn, 1) := by decide +kernel
theorem dX7_node_53 : decode cX7_node 53 = .ok (.iload_n 3, 1) := by decide +kernel
theorem dX7_node_54 : decode cX7_node 54 = .ok (.aload_n 0, 1) := by decide +kernel
theorem dX7_node_55 : decode cX7_node 55 = .ok (.getfield 10, 3) := by decide +kernel
theorem dX7_node_58 : decode cX7_node 58 = .ok (.invokevirtual 115, 3) := by decide +kernel
theorem dX7_node_61 : decode cX7_node 61 = .ok (.invokestatic 46, 3) := by decide +kernel
theorem dX7_node_64 : decode cX7_node 64 = .ok (.ifCond .ne 5, 3) := by decide +kernel
theorem dX7_node_67 : decode cX7_node 67 = .ok (.iconst (-1), 1) := by decide +kernel
theorem dX7_node_68 : decode cX7_node 68 = .ok (.ireturn, 1) := by decide +kernel
theorem dX7_node_69 : decode cX7_node 69 = .ok (.aload_n 0, 1) := by decide +kernel
theorem dX7_node_70 : decode cX7_node 70 = .ok (.getfield 42, 3) := by decide +kernel
theorem dX7_node_73 : decode cX7_node 73 = .ok (.getfield 57, 3) := by decide +kernel
theorem dX7_node_76 : decode cX7_node 76 = .ok (.ifCond .eq 6, 3) := by decide +kernel
theorem dX7_node_79 : decode cX7_node 79 = .ok (.bipush (-2), 2) := by decide +kernel
theorem dX7_node_81 : decode cX7_node 81 = .ok (.ireturn, 1) := by decide +kernel
theorem dX7_node_82 : decode cX7_node 82 = .ok (.aload_n 0, 1) := by decide +kernel
theorem dX7_node_83 : decode cX7_node 83 = .ok (.getfield 19, 3) := by decide +kernel
theorem dX7_node_86 : decode cX7_node 86 = .ok (.aload 4, 2) := by decide +kernel
theorem dX7_node_88 : decode cX7_node 88 = .ok (.iload_n 2, 1) := by decide +kernel
theorem dX7_node_89 : decode cX7_node 89 = .ok (.invokevirtual 119, 3) := by decide +kernel
theorem dX7_node_92 : decode cX7_node 92 = .ok (.astore 5, 2) := by decide +kernel
theorem dX7_node_94 : decode cX7_node 94 = .ok (.aload 5, 2) := by decide +kernel
theorem dX7_node_96 : decode cX7_node 96 = .ok (.ifnonnull 6, 3) := by decide +kernel
theorem dX7_node_99 : decode cX7_node 99 = .ok (.bipush (-5), 2) := by decide +kernel
theorem dX7_node_101 : decode cX7_node 101 = .ok (.ireturn, 1) := by decide +kernel
theorem dX7_node_102 : decode cX7_node 102 = .ok (.aload_n 0, 1) := by decide +kernel
theorem dX7_node_103 : decode cX7_node 103 = .ok (.getfield 10, 3) := by decide +kernel
theorem dX7_node_106 : decode cX7_node 106 = .ok (.iload_n 3, 1) := by decide +kernel
theorem dX7_node_107 : decode cX7_node 107 = .ok (.aload 5, 2) := by decide +kernel
theorem dX7_node_109 : decode cX7_node 109 = .ok (.getfield 123, 3) := by decide +kernel
theorem dX7_node_112 : decode cX7_node 112 = .ok (.invokevirtual 126, 3) := by decide +kernel
theorem dX7_node_115 : decode cX7_node 115 = .ok (.aload_n 0, 1) := by decide +kernel
theorem dX7_node_116 : decode cX7_node 116 = .ok (.getfield 28, 3) := by decide +kernel
theorem dX7_node_119 : decode cX7_node 119 = .ok (.invokevirtual 62, 3) := by decide +kernel
theorem dX7_node_122 : decode cX7_node 122 = .ok (.aload 5, 2) := by decide +kernel
theorem dX7_node_124 : decode cX7_node 124 = .ok (.getfield 130, 3) := by decide +kernel
theorem dX7_node_127 : decode cX7_node 127 = .ok (.ireturn, 1) := by decide +kernel
theorem dX7_about_0 : decode cX7_about 0 = .ok (.aload_n 0, 1) := by decide +kernel
theorem dX7_about_1 : decode cX7_about 1 = .ok (.getfield 19, 3) := by decide +kernel
theorem dX7_about_4 : decode cX7_about 4 = .ok (.iload_n 1, 1) := by decide +kernel
theorem dX7_about_5 : decode cX7_about 5 = .ok (.invokevirtual 99, 3) := by decide +kernel
theorem dX7_about_8 : decode cX7_about 8 = .ok (.astore_n 3, 1) := by decide +kernel
theorem dX7_about_9 : decode cX7_about 9 = .ok (.aload_n 3, 1) := by decide +kernel
theorem dX7_about_10 : decode cX7_about 10 = .ok (.ifnonnull 6, 3) := by decide +kernel
theorem dX7_about_13 : decode cX7_about 13 = .ok (.bipush (-2), 2) := by decide +kernel
theorem dX7_about_15 : decode cX7_about 15 = .ok (.ireturn, 1) := by decide +kernel
theorem dX7_about_16 : decode cX7_about 16 = .ok (.iload_n 2, 1) := by decide +kernel
theorem dX7_about_17 : decode cX7_about 17 = .ok (.tableswitch 130 0 7 #[47, 66, 88, 93, 98, 103, 103, 103], 47) := by decide +kernel
theorem dX7_about_64 : decode cX7_about 64 = .ok (.aload_n 3, 1) := by decide +kernel
theorem dX7_about_65 : decode cX7_about 65 = .ok (.getfield 133, 3) := by decide +kernel
theorem dX7_about_68 : decode cX7_about 68 = .ok (.ifnonnull 7, 3) := by decide +kernel
theorem dX7_about_71 : decode cX7_about 71 = .ok (.iconst (-1), 1) := by decide +kernel
theorem dX7_about_72 : decode cX7_about 72 = .ok (.goto 10, 3) := by decide +kernel
theorem dX7_about_75 : decode cX7_about 75 = .ok (.aload_n 3, 1) := by decide +kernel
theorem dX7_about_76 : decode cX7_about 76 = .ok (.getfield 133, 3) := by decide +kernel
theorem dX7_about_79 : decode cX7_about 79 = .ok (.getfield 130, 3) := by decide +kernel
theorem dX7_about_82 : decode cX7_about 82 = .ok (.ireturn, 1) := by decide +kernel
theorem dX7_about_83 : decode cX7_about 83 = .ok (.aload_n 3, 1) := by decide +kernel
theorem dX7_about_84 : decode cX7_about 84 = .ok (.getfield 133, 3) := by decide +kernel
theorem dX7_about_87 : decode cX7_about 87 = .ok (.ifnonnull 13, 3) := by decide +kernel
theorem dX7_about_90 : decode cX7_about 90 = .ok (.aload_n 0, 1) := by decide +kernel
theorem dX7_about_91 : decode cX7_about 91 = .ok (.getfield 19, 3) := by decide +kernel
theorem dX7_about_94 : decode cX7_about 94 = .ok (.getfield 107, 3) := by decide +kernel
theorem dX7_about_97 : decode cX7_about 97 = .ok (.goto 7, 3) := by decide +kernel
theorem dX7_about_100 : decode cX7_about 100 = .ok (.aload_n 3, 1) := by decide +kernel
theorem dX7_about_101 : decode cX7_about 101 = .ok (.getfield 137, 3) := by decide +kernel
theorem dX7_about_104 : decode cX7_about 104 = .ok (.ireturn, 1) := by decide +kernel
theorem dX7_about_105 : decode cX7_about 105 = .ok (.aload_n 3, 1) := by decide +kernel
theorem dX7_about_106 : decode cX7_about 106 = .ok (.getfield 140, 3) := by decide +kernel
theorem dX7_about_109 : decode cX7_about 109 = .ok (.ireturn, 1) := by decide +kernel
theorem dX7_about_110 : decode cX7_about 110 = .ok (.aload_n 3, 1) := by decide +kernel
theorem dX7_about_111 : decode cX7_about 111 = .ok (.getfield 143, 3) := by decide +kernel
theorem dX7_about_114 : decode cX7_about 114 = .ok (.ireturn, 1) := by decide +kernel
theorem dX7_about_115 : decode cX7_about 115 = .ok (.aload_n 3, 1) := by decide +kernel
theorem dX7_about_116 : decode cX7_about 116 = .ok (.getfield 110, 3) := by decide +kernel
theorem dX7_about_119 : decode cX7_about 119 = .ok (.ireturn, 1) := by decide +kernel
theorem dX7_about_120 : decode cX7_about 120 = .ok (.aload_n 0, 1) := by decide +kernel
theorem dX7_about_121 : decode cX7_about 121 = .ok (.getfield 10, 3) := by decide +kernel
theorem dX7_about_124 : decode cX7_about 124 = .ok (.iload_n 2, 1) := by decide +kernel
theorem dX7_about_125 : decode cX7_about 125 = .ok (.iconst 5, 1) := by decide +kernel
theorem dX7_about_126 : decode cX7_about 126 = .ok (.isub, 1) := by decide +kernel
theorem dX7_about_127 : decode cX7_about 127 = .ok (.invokevirtual 69, 3) := by decide +kernel
theorem dX7_about_130 : decode cX7_about 130 = .ok (.ifnonnull 8, 3) := by decide +kernel
theorem dX7_about_133 : decode cX7_about 133 = .ok (.bipush (-2), 2) := by decide +kernel
theorem dX7_about_135 : decode cX7_about 135 = .ok (.goto 11, 3) := by decide +kernel
theorem dX7_about_138 : decode cX7_about 138 = .ok (.aload_n 3, 1) := by decide +kernel
theorem dX7_about_139 : decode cX7_about 139 = .ok (.getfield 123, 3) := by decide +kernel
theorem dX7_about_142 : decode cX7_about 142 = .ok (.iload_n 2, 1) := by decide +kernel
theorem dX7_about_143 : decode cX7_about 143 = .ok (.iconst 5, 1) := by decide +kernel
theorem dX7_about_144 : decode cX7_about 144 = .ok (.isub, 1) := by decide +kernel
theorem dX7_about_145 : decode cX7_about 145 = .ok (.iaload, 1) := by decide +kernel
theorem dX7_about_146 : decode cX7_about 146 = .ok (.ireturn, 1) := by decide +kernel
theorem dX7_about_147 : decode cX7_about 147 = .ok (.bipush (-2), 2) := by decide +kernel
theorem dX7_about_149 : decode cX7_about 149 = .ok (.ireturn, 1) := by decide +kernel
theorem dX7_count_0 : decode cX7_count 0 = .ok (.iload_n 1, 1) := by decide +kernel
theorem dX7_count_1 : decode cX7_count 1 = .ok (.tableswitch 112 0 6 #[43, 51, 59, 67, 83, 91, 99], 43) := by decide +kernel
theorem dX7_count_44 : decode cX7_count 44 = .ok (.aload_n 0, 1) := by decide +kernel
theorem dX7_count_45 : decode cX7_count 45 = .ok (.getfield 10, 3) := by decide +kernel
theorem dX7_count_48 : decode cX7_count 48 = .ok (.getfield 50, 3) := by decide +kernel
theorem dX7_count_51 : decode cX7_count 51 = .ok (.ireturn, 1) := by decide +kernel
theorem dX7_count_52 : decode cX7_count 52 = .ok (.aload_n 0, 1) := by decide +kernel
theorem dX7_count_53 : decode cX7_count 53 = .ok (.getfield 19, 3) := by decide +kernel
theorem dX7_count_56 : decode cX7_count 56 = .ok (.getfield 61, 3) := by decide +kernel
theorem dX7_count_59 : decode cX7_count 59 = .ok (.ireturn, 1) := by decide +kernel
theorem dX7_count_60 : decode cX7_count 60 = .ok (.aload_n 0, 1) := by decide +kernel
theorem dX7_count_61 : decode cX7_count 61 = .ok (.getfield 10, 3) := by decide +kernel
theorem dX7_count_64 : decode cX7_count 64 = .ok (.getfield 54, 3) := by decide +kernel
theorem dX7_count_67 : decode cX7_count 67 = .ok (.ireturn, 1) := by decide +kernel
theorem dX7_count_68 : decode cX7_count 68 = .ok (.aload_n 0, 1) := by decide +kernel
theorem dX7_count_69 : decode cX7_count 69 = .ok (.getfield 42, 3) := by decide +kernel
theorem dX7_count_72 : decode cX7_count 72 = .ok (.getfield 57, 3) := by decide +kernel
theorem dX7_count_75 : decode cX7_count 75 = .ok (.ifCond .eq 7, 3) := by decide +kernel
theorem dX7_count_78 : decode cX7_count 78 = .ok (.iconst 1, 1) := by decide +kernel
theorem dX7_count_79 : decode cX7_count 79 = .ok (.goto 4, 3) := by decide +kernel
theorem dX7_count_82 : decode cX7_count 82 = .ok (.iconst 0, 1) := by decide +kernel
theorem dX7_count_83 : decode cX7_count 83 = .ok (.ireturn, 1) := by decide +kernel
theorem dX7_count_84 : decode cX7_count 84 = .ok (.aload_n 0, 1) := by decide +kernel
end
section
theorem dX7_count_85 : decode cX7_count 85 = .ok (.getfield 19, 3) := by decide +kernel
theorem dX7_count_88 : decode cX7_count 88 = .ok (.getfield 146, 3) := by decide +kernel
theorem dX7_count_91 : decode cX7_count 91 = .ok (.ireturn, 1) := by decide +kernel
theorem dX7_count_92 : decode cX7_count 92 = .ok (.aload_n 0, 1) := by decide +kernel
theorem dX7_count_93 : decode cX7_count 93 = .ok (.getfield 19, 3) := by decide +kernel
theorem dX7_count_96 : decode cX7_count 96 = .ok (.getfield 107, 3) := by decide +kernel
theorem dX7_count_99 : decode cX7_count 99 = .ok (.ireturn, 1) := by decide +kernel
theorem dX7_count_100 : decode cX7_count 100 = .ok (.aload_n 0, 1) := by decide +kernel
theorem dX7_count_101 : decode cX7_count 101 = .ok (.invokevirtual 149, 3) := by decide +kernel
theorem dX7_count_104 : decode cX7_count 104 = .ok (.ifCond .eq 7, 3) := by decide +kernel
theorem dX7_count_107 : decode cX7_count 107 = .ok (.iconst 1, 1) := by decide +kernel
theorem dX7_count_108 : decode cX7_count 108 = .ok (.goto 4, 3) := by decide +kernel
theorem dX7_count_111 : decode cX7_count 111 = .ok (.iconst 0, 1) := by decide +kernel
theorem dX7_count_112 : decode cX7_count 112 = .ok (.ireturn, 1) := by decide +kernel
theorem dX7_count_113 : decode cX7_count 113 = .ok (.iconst (-1), 1) := by decide +kernel
theorem dX7_count_114 : decode cX7_count 114 = .ok (.ireturn, 1) := by decide +kernel
theorem dX7_worth_0 : decode cX7_worth 0 = .ok (.aload_n 0, 1) := by decide +kernel
theorem dX7_worth_1 : decode cX7_worth 1 = .ok (.getfield 19, 3) := by decide +kernel
theorem dX7_worth_4 : decode cX7_worth 4 = .ok (.iload_n 1, 1) := by decide +kernel
theorem dX7_worth_5 : decode cX7_worth 5 = .ok (.invokevirtual 99, 3) := by decide +kernel
theorem dX7_worth_8 : decode cX7_worth 8 = .ok (.astore_n 3, 1) := by decide +kernel
theorem dX7_worth_9 : decode cX7_worth 9 = .ok (.aload_n 3, 1) := by decide +kernel
theorem dX7_worth_10 : decode cX7_worth 10 = .ok (.ifnull 21, 3) := by decide +kernel
theorem dX7_worth_13 : decode cX7_worth 13 = .ok (.aload_n 0, 1) := by decide +kernel
theorem dX7_worth_14 : decode cX7_worth 14 = .ok (.getfield 10, 3) := by decide +kernel
theorem dX7_worth_17 : decode cX7_worth 17 = .ok (.iload_n 2, 1) := by decide +kernel
theorem dX7_worth_18 : decode cX7_worth 18 = .ok (.invokevirtual 153, 3) := by decide +kernel
theorem dX7_worth_21 : decode cX7_worth 21 = .ok (.ifCond .eq 10, 3) := by decide +kernel
theorem dX7_worth_24 : decode cX7_worth 24 = .ok (.aload_n 0, 1) := by decide +kernel
theorem dX7_worth_25 : decode cX7_worth 25 = .ok (.invokevirtual 149, 3) := by decide +kernel
theorem dX7_worth_28 : decode cX7_worth 28 = .ok (.ifCond .ne 7, 3) := by decide +kernel
theorem dX7_worth_31 : decode cX7_worth 31 = .ok (.ldc2_w 157, 3) := by decide +kernel
theorem dX7_worth_34 : decode cX7_worth 34 = .ok (.lreturn, 1) := by decide +kernel
theorem dX7_worth_35 : decode cX7_worth 35 = .ok (.aload_n 0, 1) := by decide +kernel
theorem dX7_worth_36 : decode cX7_worth 36 = .ok (.getfield 28, 3) := by decide +kernel
theorem dX7_worth_39 : decode cX7_worth 39 = .ok (.aload_n 3, 1) := by decide +kernel
theorem dX7_worth_40 : decode cX7_worth 40 = .ok (.iload_n 2, 1) := by decide +kernel
theorem dX7_worth_41 : decode cX7_worth 41 = .ok (.invokevirtual 159, 3) := by decide +kernel
theorem dX7_worth_44 : decode cX7_worth 44 = .ok (.lreturn, 1) := by decide +kernel
theorem dX7_policy_0 : decode cX7_policy 0 = .ok (.aload_n 0, 1) := by decide +kernel
theorem dX7_policy_1 : decode cX7_policy 1 = .ok (.getfield 19, 3) := by decide +kernel
theorem dX7_policy_4 : decode cX7_policy 4 = .ok (.iload_n 1, 1) := by decide +kernel
theorem dX7_policy_5 : decode cX7_policy 5 = .ok (.invokevirtual 99, 3) := by decide +kernel
theorem dX7_policy_8 : decode cX7_policy 8 = .ok (.astore 4, 2) := by decide +kernel
theorem dX7_policy_10 : decode cX7_policy 10 = .ok (.aload 4, 2) := by decide +kernel
theorem dX7_policy_12 : decode cX7_policy 12 = .ok (.ifnull 25, 3) := by decide +kernel
theorem dX7_policy_15 : decode cX7_policy 15 = .ok (.aload_n 0, 1) := by decide +kernel
theorem dX7_policy_16 : decode cX7_policy 16 = .ok (.getfield 10, 3) := by decide +kernel
theorem dX7_policy_19 : decode cX7_policy 19 = .ok (.iload_n 2, 1) := by decide +kernel
theorem dX7_policy_20 : decode cX7_policy 20 = .ok (.invokevirtual 153, 3) := by decide +kernel
theorem dX7_policy_23 : decode cX7_policy 23 = .ok (.ifCond .eq 14, 3) := by decide +kernel
theorem dX7_policy_26 : decode cX7_policy 26 = .ok (.aload_n 0, 1) := by decide +kernel
theorem dX7_policy_27 : decode cX7_policy 27 = .ok (.getfield 10, 3) := by decide +kernel
theorem dX7_policy_30 : decode cX7_policy 30 = .ok (.iload_n 3, 1) := by decide +kernel
theorem dX7_policy_31 : decode cX7_policy 31 = .ok (.invokevirtual 69, 3) := by decide +kernel
theorem dX7_policy_34 : decode cX7_policy 34 = .ok (.ifnonnull 5, 3) := by decide +kernel
theorem dX7_policy_37 : decode cX7_policy 37 = .ok (.iconst (-1), 1) := by decide +kernel
theorem dX7_policy_38 : decode cX7_policy 38 = .ok (.ireturn, 1) := by decide +kernel
theorem dX7_policy_39 : decode cX7_policy 39 = .ok (.aload_n 0, 1) := by decide +kernel
theorem dX7_policy_40 : decode cX7_policy 40 = .ok (.invokevirtual 149, 3) := by decide +kernel
theorem dX7_policy_43 : decode cX7_policy 43 = .ok (.ifCond .ne 6, 3) := by decide +kernel
theorem dX7_policy_46 : decode cX7_policy 46 = .ok (.bipush (-3), 2) := by decide +kernel
theorem dX7_policy_48 : decode cX7_policy 48 = .ok (.ireturn, 1) := by decide +kernel
theorem dX7_policy_49 : decode cX7_policy 49 = .ok (.aload_n 0, 1) := by decide +kernel
theorem dX7_policy_50 : decode cX7_policy 50 = .ok (.getfield 19, 3) := by decide +kernel
theorem dX7_policy_53 : decode cX7_policy 53 = .ok (.aload 4, 2) := by decide +kernel
theorem dX7_policy_55 : decode cX7_policy 55 = .ok (.invokevirtual 103, 3) := by decide +kernel
theorem dX7_policy_58 : decode cX7_policy 58 = .ok (.ifCond .eq 6, 3) := by decide +kernel
theorem dX7_policy_61 : decode cX7_policy 61 = .ok (.bipush (-4), 2) := by decide +kernel
theorem dX7_policy_63 : decode cX7_policy 63 = .ok (.ireturn, 1) := by decide +kernel
theorem dX7_policy_64 : decode cX7_policy 64 = .ok (.aload_n 0, 1) := by decide +kernel
theorem dX7_policy_65 : decode cX7_policy 65 = .ok (.getfield 28, 3) := by decide +kernel
theorem dX7_policy_68 : decode cX7_policy 68 = .ok (.aload 4, 2) := by decide +kernel
theorem dX7_policy_70 : decode cX7_policy 70 = .ok (.iload_n 2, 1) := by decide +kernel
theorem dX7_policy_71 : decode cX7_policy 71 = .ok (.invokevirtual 163, 3) := by decide +kernel
theorem dX7_policy_74 : decode cX7_policy 74 = .ok (.iload_n 3, 1) := by decide +kernel
theorem dX7_policy_75 : decode cX7_policy 75 = .ok (.invokestatic 167, 3) := by decide +kernel
theorem dX7_policy_78 : decode cX7_policy 78 = .ok (.ireturn, 1) := by decide +kernel
theorem dX7_water_0 : decode cX7_water 0 = .ok (.aload_n 0, 1) := by decide +kernel
theorem dX7_water_1 : decode cX7_water 1 = .ok (.getfield 19, 3) := by decide +kernel
theorem dX7_water_4 : decode cX7_water 4 = .ok (.iload_n 1, 1) := by decide +kernel
theorem dX7_water_5 : decode cX7_water 5 = .ok (.invokevirtual 99, 3) := by decide +kernel
theorem dX7_water_8 : decode cX7_water 8 = .ok (.astore 4, 2) := by decide +kernel
theorem dX7_water_10 : decode cX7_water 10 = .ok (.aload_n 0, 1) := by decide +kernel
theorem dX7_water_11 : decode cX7_water 11 = .ok (.getfield 10, 3) := by decide +kernel
theorem dX7_water_14 : decode cX7_water 14 = .ok (.iload_n 3, 1) := by decide +kernel
theorem dX7_water_15 : decode cX7_water 15 = .ok (.invokevirtual 69, 3) := by decide +kernel
theorem dX7_water_18 : decode cX7_water 18 = .ok (.astore 5, 2) := by decide +kernel
theorem dX7_water_20 : decode cX7_water 20 = .ok (.aload 4, 2) := by decide +kernel
theorem dX7_water_22 : decode cX7_water 22 = .ok (.ifnull 26, 3) := by decide +kernel
theorem dX7_water_25 : decode cX7_water 25 = .ok (.aload 5, 2) := by decide +kernel
theorem dX7_water_27 : decode cX7_water 27 = .ok (.ifnull 21, 3) := by decide +kernel
theorem dX7_water_30 : decode cX7_water 30 = .ok (.aload_n 0, 1) := by decide +kernel
theorem dX7_water_31 : decode cX7_water 31 = .ok (.getfield 10, 3) := by decide +kernel
theorem dX7_water_34 : decode cX7_water 34 = .ok (.iload_n 2, 1) := by decide +kernel
theorem dX7_water_35 : decode cX7_water 35 = .ok (.invokevirtual 153, 3) := by decide +kernel
theorem dX7_water_38 : decode cX7_water 38 = .ok (.ifCond .eq 10, 3) := by decide +kernel
theorem dX7_water_41 : decode cX7_water 41 = .ok (.aload_n 0, 1) := by decide +kernel
theorem dX7_water_42 : decode cX7_water 42 = .ok (.invokevirtual 149, 3) := by decide +kernel
theorem dX7_water_45 : decode cX7_water 45 = .ok (.ifCond .ne 7, 3) := by decide +kernel
theorem dX7_water_48 : decode cX7_water 48 = .ok (.ldc2_w 157, 3) := by decide +kernel
theorem dX7_water_51 : decode cX7_water 51 = .ok (.lreturn, 1) := by decide +kernel
theorem dX7_water_52 : decode cX7_water 52 = .ok (.aload_n 0, 1) := by decide +kernel
theorem dX7_water_53 : decode cX7_water 53 = .ok (.getfield 10, 3) := by decide +kernel
theorem dX7_water_56 : decode cX7_water 56 = .ok (.iload_n 2, 1) := by decide +kernel
theorem dX7_water_57 : decode cX7_water 57 = .ok (.iload_n 3, 1) := by decide +kernel
theorem dX7_water_58 : decode cX7_water 58 = .ok (.invokevirtual 171, 3) := by decide +kernel
theorem dX7_water_61 : decode cX7_water 61 = .ok (.aload 5, 2) := by decide +kernel
theorem dX7_water_63 : decode cX7_water 63 = .ok (.getfield 73, 3) := by decide +kernel
theorem dX7_water_66 : decode cX7_water 66 = .ok (.if_icmp .lt 7, 3) := by decide +kernel
theorem dX7_water_69 : decode cX7_water 69 = .ok (.ldc2_w 157, 3) := by decide +kernel
theorem dX7_water_72 : decode cX7_water 72 = .ok (.lreturn, 1) := by decide +kernel
theorem dX7_water_73 : decode cX7_water 73 = .ok (.aload_n 0, 1) := by decide +kernel
theorem dX7_water_74 : decode cX7_water 74 = .ok (.getfield 28, 3) := by decide +kernel
theorem dX7_water_77 : decode cX7_water 77 = .ok (.aload 4, 2) := by decide +kernel
theorem dX7_water_79 : decode cX7_water 79 = .ok (.iload_n 2, 1) := by decide +kernel
theorem dX7_water_80 : decode cX7_water 80 = .ok (.aload 5, 2) := by decide +kernel
theorem dX7_water_82 : decode cX7_water 82 = .ok (.getfield 174, 3) := by decide +kernel
theorem dX7_water_85 : decode cX7_water 85 = .ok (.iadd, 1) := by decide +kernel
theorem dX7_water_86 : decode cX7_water 86 = .ok (.invokevirtual 159, 3) := by decide +kernel
theorem dX7_water_89 : decode cX7_water 89 = .ok (.aload_n 0, 1) := by decide +kernel
theorem dX7_water_90 : decode cX7_water 90 = .ok (.getfield 28, 3) := by decide +kernel
theorem dX7_water_93 : decode cX7_water 93 = .ok (.aload 4, 2) := by decide +kernel
theorem dX7_water_95 : decode cX7_water 95 = .ok (.iload_n 2, 1) := by decide +kernel
theorem dX7_water_96 : decode cX7_water 96 = .ok (.invokevirtual 159, 3) := by decide +kernel
theorem dX7_water_99 : decode cX7_water 99 = .ok (.lsub, 1) := by decide +kernel
theorem dX7_water_100 : decode cX7_water 100 = .ok (.lreturn, 1) := by decide +kernel
theorem dX7_needs_0 : decode cX7_needs 0 = .ok (.aload_n 0, 1) := by decide +kernel
theorem dX7_needs_1 : decode cX7_needs 1 = .ok (.getfield 19, 3) := by decide +kernel
theorem dX7_needs_4 : decode cX7_needs 4 = .ok (.iload_n 1, 1) := by decide +kernel
theorem dX7_needs_5 : decode cX7_needs 5 = .ok (.invokevirtual 99, 3) := by decide +kernel
theorem dX7_needs_8 : decode cX7_needs 8 = .ok (.astore 4, 2) := by decide +kernel
theorem dX7_needs_10 : decode cX7_needs 10 = .ok (.aload 4, 2) := by decide +kernel
theorem dX7_needs_12 : decode cX7_needs 12 = .ok (.ifnonnull 5, 3) := by decide +kernel
theorem dX7_needs_15 : decode cX7_needs 15 = .ok (.iconst (-1), 1) := by decide +kernel
theorem dX7_needs_16 : decode cX7_needs 16 = .ok (.ireturn, 1) := by decide +kernel
theorem dX7_needs_17 : decode cX7_needs 17 = .ok (.aload_n 0, 1) := by decide +kernel
theorem dX7_needs_18 : decode cX7_needs 18 = .ok (.invokevirtual 149, 3) := by decide +kernel
theorem dX7_needs_21 : decode cX7_needs 21 = .ok (.ifCond .ne 6, 3) := by decide +kernel
theorem dX7_needs_24 : decode cX7_needs 24 = .ok (.bipush (-3), 2) := by decide +kernel
theorem dX7_needs_26 : decode cX7_needs 26 = .ok (.ireturn, 1) := by decide +kernel
theorem dX7_needs_27 : decode cX7_needs 27 = .ok (.bipush (-6), 2) := by decide +kernel
theorem dX7_needs_29 : decode cX7_needs 29 = .ok (.istore 5, 2) := by decide +kernel
theorem dX7_needs_31 : decode cX7_needs 31 = .ok (.bipush 91, 2) := by decide +kernel
theorem dX7_needs_33 : decode cX7_needs 33 = .ok (.istore 6, 2) := by decide +kernel
theorem dX7_needs_35 : decode cX7_needs 35 = .ok (.iconst 0, 1) := by decide +kernel
theorem dX7_needs_36 : decode cX7_needs 36 = .ok (.istore 7, 2) := by decide +kernel
theorem dX7_needs_38 : decode cX7_needs 38 = .ok (.iload 7, 2) := by decide +kernel
theorem dX7_needs_40 : decode cX7_needs 40 = .ok (.aload_n 0, 1) := by decide +kernel
theorem dX7_needs_41 : decode cX7_needs 41 = .ok (.getfield 10, 3) := by decide +kernel
theorem dX7_needs_44 : decode cX7_needs 44 = .ok (.getfield 54, 3) := by decide +kernel
theorem dX7_needs_47 : decode cX7_needs 47 = .ok (.if_icmp .ge 51, 3) := by decide +kernel
theorem dX7_needs_50 : decode cX7_needs 50 = .ok (.aload_n 0, 1) := by decide +kernel
theorem dX7_needs_51 : decode cX7_needs 51 = .ok (.getfield 10, 3) := by decide +kernel
theorem dX7_needs_54 : decode cX7_needs 54 = .ok (.iload 7, 2) := by decide +kernel
theorem dX7_needs_56 : decode cX7_needs 56 = .ok (.invokevirtual 177, 3) := by decide +kernel
theorem dX7_needs_59 : decode cX7_needs 59 = .ok (.istore 8, 2) := by decide +kernel
theorem dX7_needs_61 : decode cX7_needs 61 = .ok (.iload 8, 2) := by decide +kernel
theorem dX7_needs_63 : decode cX7_needs 63 = .ok (.iload 6, 2) := by decide +kernel
theorem dX7_needs_65 : decode cX7_needs 65 = .ok (.if_icmp .ge 27, 3) := by decide +kernel
theorem dX7_needs_68 : decode cX7_needs 68 = .ok (.aload_n 0, 1) := by decide +kernel
theorem dX7_needs_69 : decode cX7_needs 69 = .ok (.getfield 28, 3) := by decide +kernel
theorem dX7_needs_72 : decode cX7_needs 72 = .ok (.aload 4, 2) := by decide +kernel
theorem dX7_needs_74 : decode cX7_needs 74 = .ok (.iload 7, 2) := by decide +kernel
theorem dX7_needs_76 : decode cX7_needs 76 = .ok (.invokevirtual 159, 3) := by decide +kernel
theorem dX7_needs_79 : decode cX7_needs 79 = .ok (.lload_n 2, 1) := by decide +kernel
theorem dX7_needs_80 : decode cX7_needs 80 = .ok (.lcmp, 1) := by decide +kernel
theorem dX7_needs_81 : decode cX7_needs 81 = .ok (.ifCond .lt 11, 3) := by decide +kernel
theorem dX7_needs_84 : decode cX7_needs 84 = .ok (.iload 8, 2) := by decide +kernel
theorem dX7_needs_86 : decode cX7_needs 86 = .ok (.istore 6, 2) := by decide +kernel
theorem dX7_needs_88 : decode cX7_needs 88 = .ok (.iload 7, 2) := by decide +kernel
theorem dX7_needs_90 : decode cX7_needs 90 = .ok (.istore 5, 2) := by decide +kernel
theorem dX7_needs_92 : decode cX7_needs 92 = .ok (.iinc 7 1, 3) := by decide +kernel
theorem dX7_needs_95 : decode cX7_needs 95 = .ok (.goto (-57), 3) := by decide +kernel
theorem dX7_needs_98 : decode cX7_needs 98 = .ok (.iload 5, 2) := by decide +kernel
theorem dX7_needs_100 : decode cX7_needs 100 = .ok (.ireturn, 1) := by decide +kernel
theorem dX7_rule_0 : decode cX7_rule 0 = .ok (.aload_n 0, 1) := by decide +kernel
theorem dX7_rule_1 : decode cX7_rule 1 = .ok (.getfield 10, 3) := by decide +kernel
theorem dX7_rule_4 : decode cX7_rule 4 = .ok (.iload_n 1, 1) := by decide +kernel
theorem dX7_rule_5 : decode cX7_rule 5 = .ok (.invokevirtual 69, 3) := by decide +kernel
theorem dX7_rule_8 : decode cX7_rule 8 = .ok (.astore 4, 2) := by decide +kernel
theorem dX7_rule_10 : decode cX7_rule 10 = .ok (.aload 4, 2) := by decide +kernel
theorem dX7_rule_12 : decode cX7_rule 12 = .ok (.ifnull 21, 3) := by decide +kernel
theorem dX7_rule_15 : decode cX7_rule 15 = .ok (.iload_n 2, 1) := by decide +kernel
theorem dX7_rule_16 : decode cX7_rule 16 = .ok (.bipush 30, 2) := by decide +kernel
theorem dX7_rule_18 : decode cX7_rule 18 = .ok (.invokestatic 46, 3) := by decide +kernel
theorem dX7_rule_21 : decode cX7_rule 21 = .ok (.ifCond .eq 12, 3) := by decide +kernel
theorem dX7_rule_24 : decode cX7_rule 24 = .ok (.iload_n 3, 1) := by decide +kernel
theorem dX7_rule_25 : decode cX7_rule 25 = .ok (.bipush 30, 2) := by decide +kernel
theorem dX7_rule_27 : decode cX7_rule 27 = .ok (.invokestatic 46, 3) := by decide +kernel
theorem dX7_rule_30 : decode cX7_rule 30 = .ok (.ifCond .ne 5, 3) := by decide +kernel
theorem dX7_rule_33 : decode cX7_rule 33 = .ok (.iconst (-1), 1) := by decide +kernel
theorem dX7_rule_34 : decode cX7_rule 34 = .ok (.ireturn, 1) := by decide +kernel
theorem dX7_rule_35 : decode cX7_rule 35 = .ok (.aload 4, 2) := by decide +kernel
theorem dX7_rule_37 : decode cX7_rule 37 = .ok (.iload_n 2, 1) := by decide +kernel
theorem dX7_rule_38 : decode cX7_rule 38 = .ok (.putfield 180, 3) := by decide +kernel
theorem dX7_rule_41 : decode cX7_rule 41 = .ok (.aload 4, 2) := by decide +kernel
theorem dX7_rule_43 : decode cX7_rule 43 = .ok (.iload_n 3, 1) := by decide +kernel
theorem dX7_rule_44 : decode cX7_rule 44 = .ok (.putfield 183, 3) := by decide +kernel
theorem dX7_rule_47 : decode cX7_rule 47 = .ok (.iconst 1, 1) := by decide +kernel
theorem dX7_rule_48 : decode cX7_rule 48 = .ok (.ireturn, 1) := by decide +kernel
theorem dX7_mean_0 : decode cX7_mean 0 = .ok (.aload_n 0, 1) := by decide +kernel
theorem dX7_mean_1 : decode cX7_mean 1 = .ok (.getfield 19, 3) := by decide +kernel
theorem dX7_mean_4 : decode cX7_mean 4 = .ok (.iload_n 1, 1) := by decide +kernel
theorem dX7_mean_5 : decode cX7_mean 5 = .ok (.invokevirtual 99, 3) := by decide +kernel
theorem dX7_mean_8 : decode cX7_mean 8 = .ok (.astore_n 3, 1) := by decide +kernel
theorem dX7_mean_9 : decode cX7_mean 9 = .ok (.aload_n 3, 1) := by decide +kernel
theorem dX7_mean_10 : decode cX7_mean 10 = .ok (.ifnull 21, 3) := by decide +kernel
theorem dX7_mean_13 : decode cX7_mean 13 = .ok (.aload_n 0, 1) := by decide +kernel
theorem dX7_mean_14 : decode cX7_mean 14 = .ok (.getfield 10, 3) := by decide +kernel
theorem dX7_mean_17 : decode cX7_mean 17 = .ok (.iload_n 2, 1) := by decide +kernel
theorem dX7_mean_18 : decode cX7_mean 18 = .ok (.invokevirtual 153, 3) := by decide +kernel
theorem dX7_mean_21 : decode cX7_mean 21 = .ok (.ifCond .eq 10, 3) := by decide +kernel
theorem dX7_mean_24 : decode cX7_mean 24 = .ok (.aload_n 0, 1) := by decide +kernel
theorem dX7_mean_25 : decode cX7_mean 25 = .ok (.invokevirtual 149, 3) := by decide +kernel
theorem dX7_mean_28 : decode cX7_mean 28 = .ok (.ifCond .ne 7, 3) := by decide +kernel
theorem dX7_mean_31 : decode cX7_mean 31 = .ok (.ldc2_w 157, 3) := by decide +kernel
theorem dX7_mean_34 : decode cX7_mean 34 = .ok (.lreturn, 1) := by decide +kernel
theorem dX7_mean_35 : decode cX7_mean 35 = .ok (.aload_n 0, 1) := by decide +kernel
theorem dX7_mean_36 : decode cX7_mean 36 = .ok (.getfield 35, 3) := by decide +kernel
theorem dX7_mean_39 : decode cX7_mean 39 = .ok (.aload_n 3, 1) := by decide +kernel
theorem dX7_mean_40 : decode cX7_mean 40 = .ok (.iload_n 2, 1) := by decide +kernel
theorem dX7_mean_41 : decode cX7_mean 41 = .ok (.invokevirtual 186, 3) := by decide +kernel
theorem dX7_mean_44 : decode cX7_mean 44 = .ok (.aload_n 0, 1) := by decide +kernel
theorem dX7_mean_45 : decode cX7_mean 45 = .ok (.getfield 35, 3) := by decide +kernel
theorem dX7_mean_48 : decode cX7_mean 48 = .ok (.invokevirtual 190, 3) := by decide +kernel
theorem dX7_mean_51 : decode cX7_mean 51 = .ok (.lreturn, 1) := by decide +kernel
theorem dX7_worst_0 : decode cX7_worst 0 = .ok (.aload_n 0, 1) := by decide +kernel
theorem dX7_worst_1 : decode cX7_worst 1 = .ok (.getfield 19, 3) := by decide +kernel
theorem dX7_worst_4 : decode cX7_worst 4 = .ok (.iload_n 1, 1) := by decide +kernel
theorem dX7_worst_5 : decode cX7_worst 5 = .ok (.invokevirtual 99, 3) := by decide +kernel
theorem dX7_worst_8 : decode cX7_worst 8 = .ok (.astore_n 3, 1) := by decide +kernel
theorem dX7_worst_9 : decode cX7_worst 9 = .ok (.aload_n 3, 1) := by decide +kernel
theorem dX7_worst_10 : decode cX7_worst 10 = .ok (.ifnull 21, 3) := by decide +kernel
theorem dX7_worst_13 : decode cX7_worst 13 = .ok (.aload_n 0, 1) := by decide +kernel
theorem dX7_worst_14 : decode cX7_worst 14 = .ok (.getfield 10, 3) := by decide +kernel
theorem dX7_worst_17 : decode cX7_worst 17 = .ok (.iload_n 2, 1) := by decide +kernel
theorem dX7_worst_18 : decode cX7_worst 18 = .ok (.invokevirtual 153, 3) := by decide +kernel
theorem dX7_worst_21 : decode cX7_worst 21 = .ok (.ifCond .eq 10, 3) := by decide +kernel
theorem dX7_worst_24 : decode cX7_worst 24 = .ok (.aload_n 0, 1) := by decide +kernel
theorem dX7_worst_25 : decode cX7_worst 25 = .ok (.invokevirtual 149, 3) := by decide +kernel
theorem dX7_worst_28 : decode cX7_worst 28 = .ok (.ifCond .ne 7, 3) := by decide +kernel
theorem dX7_worst_31 : decode cX7_worst 31 = .ok (.ldc2_w 157, 3) := by decide +kernel
theorem dX7_worst_34 : decode cX7_worst 34 = .ok (.lreturn, 1) := by decide +kernel
theorem dX7_worst_35 : decode cX7_worst 35 = .ok (.aload_n 0, 1) := by decide +kernel
theorem dX7_worst_36 : decode cX7_worst 36 = .ok (.getfield 35, 3) := by decide +kernel
theorem dX7_worst_39 : decode cX7_worst 39 = .ok (.aload_n 3, 1) := by decide +kernel
theorem dX7_worst_40 : decode cX7_worst 40 = .ok (.iload_n 2, 1) := by decide +kernel
theorem dX7_worst_41 : decode cX7_worst 41 = .ok (.invokevirtual 186, 3) := by decide +kernel
theorem dX7_worst_44 : decode cX7_worst 44 = .ok (.aload_n 0, 1) := by decide +kernel
theorem dX7_worst_45 : decode cX7_worst 45 = .ok (.getfield 35, 3) := by decide +kernel
theorem dX7_worst_48 : decode cX7_worst 48 = .ok (.invokevirtual 194, 3) := by decide +kernel
theorem dX7_worst_51 : decode cX7_worst 51 = .ok (.lreturn, 1) := by decide +kernel
theorem dX7_lack_0 : decode cX7_lack 0 = .ok (.aload_n 0, 1) := by decide +kernel
theorem dX7_lack_1 : decode cX7_lack 1 = .ok (.getfield 19, 3) := by decide +kernel
theorem dX7_lack_4 : decode cX7_lack 4 = .ok (.iload_n 1, 1) := by decide +kernel
theorem dX7_lack_5 : decode cX7_lack 5 = .ok (.invokevirtual 99, 3) := by decide +kernel
theorem dX7_lack_8 : decode cX7_lack 8 = .ok (.astore_n 3, 1) := by decide +kernel
theorem dX7_lack_9 : decode cX7_lack 9 = .ok (.aload_n 3, 1) := by decide +kernel
theorem dX7_lack_10 : decode cX7_lack 10 = .ok (.ifnull 14, 3) := by decide +kernel
theorem dX7_lack_13 : decode cX7_lack 13 = .ok (.aload_n 0, 1) := by decide +kernel
theorem dX7_lack_14 : decode cX7_lack 14 = .ok (.getfield 10, 3) := by decide +kernel
theorem dX7_lack_17 : decode cX7_lack 17 = .ok (.iload_n 2, 1) := by decide +kernel
theorem dX7_lack_18 : decode cX7_lack 18 = .ok (.invokevirtual 153, 3) := by decide +kernel
theorem dX7_lack_21 : decode cX7_lack 21 = .ok (.ifCond .ne 5, 3) := by decide +kernel
theorem dX7_lack_24 : decode cX7_lack 24 = .ok (.iconst (-1), 1) := by decide +kernel
theorem dX7_lack_25 : decode cX7_lack 25 = .ok (.ireturn, 1) := by decide +kernel
theorem dX7_lack_26 : decode cX7_lack 26 = .ok (.aload_n 0, 1) := by decide +kernel
theorem dX7_lack_27 : decode cX7_lack 27 = .ok (.invokevirtual 149, 3) := by decide +kernel
theorem dX7_lack_30 : decode cX7_lack 30 = .ok (.ifCond .ne 6, 3) := by decide +kernel
theorem dX7_lack_33 : decode cX7_lack 33 = .ok (.bipush (-3), 2) := by decide +kernel
theorem dX7_lack_35 : decode cX7_lack 35 = .ok (.ireturn, 1) := by decide +kernel
theorem dX7_lack_36 : decode cX7_lack 36 = .ok (.aload_n 0, 1) := by decide +kernel
theorem dX7_lack_37 : decode cX7_lack 37 = .ok (.getfield 35, 3) := by decide +kernel
theorem dX7_lack_40 : decode cX7_lack 40 = .ok (.aload_n 3, 1) := by decide +kernel
theorem dX7_lack_41 : decode cX7_lack 41 = .ok (.iload_n 2, 1) := by decide +kernel
theorem dX7_lack_42 : decode cX7_lack 42 = .ok (.invokevirtual 186, 3) := by decide +kernel
theorem dX7_lack_45 : decode cX7_lack 45 = .ok (.aload_n 0, 1) := by decide +kernel
theorem dX7_lack_46 : decode cX7_lack 46 = .ok (.getfield 35, 3) := by decide +kernel
theorem dX7_lack_49 : decode cX7_lack 49 = .ok (.invokevirtual 197, 3) := by decide +kernel
theorem dX7_lack_52 : decode cX7_lack 52 = .ok (.ireturn, 1) := by decide +kernel
theorem dX7_flood_0 : decode cX7_flood 0 = .ok (.aload_n 0, 1) := by decide +kernel
theorem dX7_flood_1 : decode cX7_flood 1 = .ok (.getfield 10, 3) := by decide +kernel
theorem dX7_flood_4 : decode cX7_flood 4 = .ok (.iload_n 2, 1) := by decide +kernel
theorem dX7_flood_5 : decode cX7_flood 5 = .ok (.invokevirtual 69, 3) := by decide +kernel
theorem dX7_flood_8 : decode cX7_flood 8 = .ok (.astore 5, 2) := by decide +kernel
theorem dX7_flood_10 : decode cX7_flood 10 = .ok (.aload 5, 2) := by decide +kernel
theorem dX7_flood_12 : decode cX7_flood 12 = .ok (.ifnull 14, 3) := by decide +kernel
theorem dX7_flood_15 : decode cX7_flood 15 = .ok (.aload_n 0, 1) := by decide +kernel
theorem dX7_flood_16 : decode cX7_flood 16 = .ok (.getfield 10, 3) := by decide +kernel
theorem dX7_flood_19 : decode cX7_flood 19 = .ok (.iload_n 1, 1) := by decide +kernel
theorem dX7_flood_20 : decode cX7_flood 20 = .ok (.invokevirtual 153, 3) := by decide +kernel
theorem dX7_flood_23 : decode cX7_flood 23 = .ok (.ifCond .ne 5, 3) := by decide +kernel
theorem dX7_flood_26 : decode cX7_flood 26 = .ok (.iconst (-1), 1) := by decide +kernel
theorem dX7_flood_27 : decode cX7_flood 27 = .ok (.ireturn, 1) := by decide +kernel
theorem dX7_flood_28 : decode cX7_flood 28 = .ok (.iload_n 3, 1) := by decide +kernel
theorem dX7_flood_29 : decode cX7_flood 29 = .ok (.aload 5, 2) := by decide +kernel
theorem dX7_flood_31 : decode cX7_flood 31 = .ok (.getfield 73, 3) := by decide +kernel
theorem dX7_flood_34 : decode cX7_flood 34 = .ok (.invokestatic 46, 3) := by decide +kernel
theorem dX7_flood_37 : decode cX7_flood 37 = .ok (.ifCond .eq 20, 3) := by decide +kernel
theorem dX7_flood_40 : decode cX7_flood 40 = .ok (.iload 4, 2) := by decide +kernel
theorem dX7_flood_42 : decode cX7_flood 42 = .ok (.aload_n 0, 1) := by decide +kernel
theorem dX7_flood_43 : decode cX7_flood 43 = .ok (.getfield 19, 3) := by decide +kernel
theorem dX7_flood_46 : decode cX7_flood 46 = .ok (.getfield 146, 3) := by decide +kernel
theorem dX7_flood_49 : decode cX7_flood 49 = .ok (.iconst 1, 1) := by decide +kernel
theorem dX7_flood_50 : decode cX7_flood 50 = .ok (.isub, 1) := by decide +kernel
theorem dX7_flood_51 : decode cX7_flood 51 = .ok (.invokestatic 46, 3) := by decide +kernel
theorem dX7_flood_54 : decode cX7_flood 54 = .ok (.ifCond .ne 5, 3) := by decide +kernel
theorem dX7_flood_57 : decode cX7_flood 57 = .ok (.iconst (-1), 1) := by decide +kernel
theorem dX7_flood_58 : decode cX7_flood 58 = .ok (.ireturn, 1) := by decide +kernel
theorem dX7_flood_59 : decode cX7_flood 59 = .ok (.aload_n 0, 1) := by decide +kernel
theorem dX7_flood_60 : decode cX7_flood 60 = .ok (.invokevirtual 149, 3) := by decide +kernel
theorem dX7_flood_63 : decode cX7_flood 63 = .ok (.ifCond .ne 6, 3) := by decide +kernel
theorem dX7_flood_66 : decode cX7_flood 66 = .ok (.bipush (-3), 2) := by decide +kernel
theorem dX7_flood_68 : decode cX7_flood 68 = .ok (.ireturn, 1) := by decide +kernel
theorem dX7_flood_69 : decode cX7_flood 69 = .ok (.aload_n 0, 1) := by decide +kernel
theorem dX7_flood_70 : decode cX7_flood 70 = .ok (.getfield 35, 3) := by decide +kernel
theorem dX7_flood_73 : decode cX7_flood 73 = .ok (.aload_n 0, 1) := by decide +kernel
theorem dX7_flood_74 : decode cX7_flood 74 = .ok (.getfield 19, 3) := by decide +kernel
theorem dX7_flood_77 : decode cX7_flood 77 = .ok (.iconst 0, 1) := by decide +kernel
theorem dX7_flood_78 : decode cX7_flood 78 = .ok (.invokevirtual 99, 3) := by decide +kernel
theorem dX7_flood_81 : decode cX7_flood 81 = .ok (.iload_n 1, 1) := by decide +kernel
theorem dX7_flood_82 : decode cX7_flood 82 = .ok (.invokevirtual 186, 3) := by decide +kernel
theorem dX7_flood_85 : decode cX7_flood 85 = .ok (.aload_n 0, 1) := by decide +kernel
theorem dX7_flood_86 : decode cX7_flood 86 = .ok (.getfield 35, 3) := by decide +kernel
theorem dX7_flood_89 : decode cX7_flood 89 = .ok (.iload_n 2, 1) := by decide +kernel
theorem dX7_flood_90 : decode cX7_flood 90 = .ok (.iload_n 3, 1) := by decide +kernel
theorem dX7_flood_91 : decode cX7_flood 91 = .ok (.iload 4, 2) := by decide +kernel
theorem dX7_flood_93 : decode cX7_flood 93 = .ok (.invokevirtual 200, 3) := by decide +kernel
theorem dX7_flood_96 : decode cX7_flood 96 = .ok (.ireturn, 1) := by decide +kernel
theorem dX7_cases_0 : decode cX7_cases 0 = .ok (.aload_n 0, 1) := by decide +kernel
theorem dX7_cases_1 : decode cX7_cases 1 = .ok (.getfield 19, 3) := by decide +kernel
theorem dX7_cases_4 : decode cX7_cases 4 = .ok (.iload_n 1, 1) := by decide +kernel
theorem dX7_cases_5 : decode cX7_cases 5 = .ok (.invokevirtual 99, 3) := by decide +kernel
theorem dX7_cases_8 : decode cX7_cases 8 = .ok (.astore_n 2, 1) := by decide +kernel
theorem dX7_cases_9 : decode cX7_cases 9 = .ok (.aload_n 2, 1) := by decide +kernel
theorem dX7_cases_10 : decode cX7_cases 10 = .ok (.ifnonnull 5, 3) := by decide +kernel
theorem dX7_cases_13 : decode cX7_cases 13 = .ok (.iconst (-1), 1) := by decide +kernel
theorem dX7_cases_14 : decode cX7_cases 14 = .ok (.ireturn, 1) := by decide +kernel
theorem dX7_cases_15 : decode cX7_cases 15 = .ok (.aload_n 0, 1) := by decide +kernel
theorem dX7_cases_16 : decode cX7_cases 16 = .ok (.invokevirtual 149, 3) := by decide +kernel
theorem dX7_cases_19 : decode cX7_cases 19 = .ok (.ifCond .ne 6, 3) := by decide +kernel
theorem dX7_cases_22 : decode cX7_cases 22 = .ok (.bipush (-3), 2) := by decide +kernel
theorem dX7_cases_24 : decode cX7_cases 24 = .ok (.ireturn, 1) := by decide +kernel
theorem dX7_cases_25 : decode cX7_cases 25 = .ok (.aload_n 0, 1) := by decide +kernel
theorem dX7_cases_26 : decode cX7_cases 26 = .ok (.getfield 35, 3) := by decide +kernel
theorem dX7_cases_29 : decode cX7_cases 29 = .ok (.aload_n 2, 1) := by decide +kernel
theorem dX7_cases_30 : decode cX7_cases 30 = .ok (.iconst 0, 1) := by decide +kernel
theorem dX7_cases_31 : decode cX7_cases 31 = .ok (.invokevirtual 186, 3) := by decide +kernel
theorem dX7_cases_34 : decode cX7_cases 34 = .ok (.aload_n 0, 1) := by decide +kernel
theorem dX7_cases_35 : decode cX7_cases 35 = .ok (.getfield 35, 3) := by decide +kernel
theorem dX7_cases_38 : decode cX7_cases 38 = .ok (.invokevirtual 204, 3) := by decide +kernel
theorem dX7_cases_41 : decode cX7_cases 41 = .ok (.ireturn, 1) := by decide +kernel
theorem dX7_begin_0 : decode cX7_begin 0 = .ok (.aload_n 0, 1) := by decide +kernel
theorem dX7_begin_1 : decode cX7_begin 1 = .ok (.getfield 10, 3) := by decide +kernel
theorem dX7_begin_4 : decode cX7_begin 4 = .ok (.iload_n 1, 1) := by decide +kernel
theorem dX7_begin_5 : decode cX7_begin 5 = .ok (.invokevirtual 153, 3) := by decide +kernel
theorem dX7_begin_8 : decode cX7_begin 8 = .ok (.ifCond .ne 5, 3) := by decide +kernel
theorem dX7_begin_11 : decode cX7_begin 11 = .ok (.iconst (-1), 1) := by decide +kernel
theorem dX7_begin_12 : decode cX7_begin 12 = .ok (.ireturn, 1) := by decide +kernel
theorem dX7_begin_13 : decode cX7_begin 13 = .ok (.aload_n 0, 1) := by decide +kernel
theorem dX7_begin_14 : decode cX7_begin 14 = .ok (.invokevirtual 149, 3) := by decide +kernel
theorem dX7_begin_17 : decode cX7_begin 17 = .ok (.ifCond .ne 6, 3) := by decide +kernel
theorem dX7_begin_20 : decode cX7_begin 20 = .ok (.bipush (-3), 2) := by decide +kernel
theorem dX7_begin_22 : decode cX7_begin 22 = .ok (.ireturn, 1) := by decide +kernel
theorem dX7_begin_23 : decode cX7_begin 23 = .ok (.aload_n 0, 1) := by decide +kernel
theorem dX7_begin_24 : decode cX7_begin 24 = .ok (.getfield 42, 3) := by decide +kernel
theorem dX7_begin_27 : decode cX7_begin 27 = .ok (.aload_n 0, 1) := by decide +kernel
theorem dX7_begin_28 : decode cX7_begin 28 = .ok (.getfield 19, 3) := by decide +kernel
theorem dX7_begin_31 : decode cX7_begin 31 = .ok (.iconst 0, 1) := by decide +kernel
theorem dX7_begin_32 : decode cX7_begin 32 = .ok (.invokevirtual 99, 3) := by decide +kernel
theorem dX7_begin_35 : decode cX7_begin 35 = .ok (.iload_n 1, 1) := by decide +kernel
theorem dX7_begin_36 : decode cX7_begin 36 = .ok (.invokevirtual 207, 3) := by decide +kernel
theorem dX7_begin_39 : decode cX7_begin 39 = .ok (.iconst 1, 1) := by decide +kernel
theorem dX7_begin_40 : decode cX7_begin 40 = .ok (.ireturn, 1) := by decide +kernel
theorem dX7_week_0 : decode cX7_week 0 = .ok (.aload_n 0, 1) := by decide +kernel
theorem dX7_week_1 : decode cX7_week 1 = .ok (.iload_n 2, 1) := by decide +kernel
theorem dX7_week_2 : decode cX7_week 2 = .ok (.invokevirtual 210, 3) := by decide +kernel
theorem dX7_week_5 : decode cX7_week 5 = .ok (.istore_n 3, 1) := by decide +kernel
theorem dX7_week_6 : decode cX7_week 6 = .ok (.iload_n 3, 1) := by decide +kernel
theorem dX7_week_7 : decode cX7_week 7 = .ok (.ifCond .eq 5, 3) := by decide +kernel
theorem dX7_week_10 : decode cX7_week 10 = .ok (.iload_n 3, 1) := by decide +kernel
theorem dX7_week_11 : decode cX7_week 11 = .ok (.ireturn, 1) := by decide +kernel
theorem dX7_week_12 : decode cX7_week 12 = .ok (.iload_n 1, 1) := by decide +kernel
theorem dX7_week_13 : decode cX7_week 13 = .ok (.aload_n 0, 1) := by decide +kernel
theorem dX7_week_14 : decode cX7_week 14 = .ok (.getfield 10, 3) := by decide +kernel
theorem dX7_week_17 : decode cX7_week 17 = .ok (.invokevirtual 213, 3) := by decide +kernel
theorem dX7_week_20 : decode cX7_week 20 = .ok (.invokestatic 46, 3) := by decide +kernel
theorem dX7_week_23 : decode cX7_week 23 = .ok (.ifCond .ne 5, 3) := by decide +kernel
theorem dX7_week_26 : decode cX7_week 26 = .ok (.iconst (-1), 1) := by decide +kernel
theorem dX7_week_27 : decode cX7_week 27 = .ok (.ireturn, 1) := by decide +kernel
theorem dX7_week_28 : decode cX7_week 28 = .ok (.aload_n 0, 1) := by decide +kernel
theorem dX7_week_29 : decode cX7_week 29 = .ok (.getfield 10, 3) := by decide +kernel
theorem dX7_week_32 : decode cX7_week 32 = .ok (.iload_n 1, 1) := by decide +kernel
theorem dX7_week_33 : decode cX7_week 33 = .ok (.invokevirtual 216, 3) := by decide +kernel
theorem dX7_week_36 : decode cX7_week 36 = .ok (.istore 4, 2) := by decide +kernel
theorem dX7_week_38 : decode cX7_week 38 = .ok (.aload_n 0, 1) := by decide +kernel
theorem dX7_week_39 : decode cX7_week 39 = .ok (.getfield 10, 3) := by decide +kernel
theorem dX7_week_42 : decode cX7_week 42 = .ok (.aload_n 0, 1) := by decide +kernel
theorem dX7_week_43 : decode cX7_week 43 = .ok (.getfield 42, 3) := by decide +kernel
theorem dX7_week_46 : decode cX7_week 46 = .ok (.invokevirtual 219, 3) := by decide +kernel
theorem dX7_week_49 : decode cX7_week 49 = .ok (.iload 4, 2) := by decide +kernel
theorem dX7_week_51 : decode cX7_week 51 = .ok (.invokevirtual 222, 3) := by decide +kernel
theorem dX7_week_54 : decode cX7_week 54 = .ok (.ifCond .ne 5, 3) := by decide +kernel
theorem dX7_week_57 : decode cX7_week 57 = .ok (.iconst (-1), 1) := by decide +kernel
theorem dX7_week_58 : decode cX7_week 58 = .ok (.ireturn, 1) := by decide +kernel
theorem dX7_week_59 : decode cX7_week 59 = .ok (.aload_n 0, 1) := by decide +kernel
theorem dX7_week_60 : decode cX7_week 60 = .ok (.iload 4, 2) := by decide +kernel
theorem dX7_week_62 : decode cX7_week 62 = .ok (.iload_n 2, 1) := by decide +kernel
theorem dX7_week_63 : decode cX7_week 63 = .ok (.invokevirtual 225, 3) := by decide +kernel
theorem dX7_week_66 : decode cX7_week 66 = .ok (.ireturn, 1) := by decide +kernel
theorem dX7_best_0 : decode cX7_best 0 = .ok (.aload_n 0, 1) := by decide +kernel
theorem dX7_best_1 : decode cX7_best 1 = .ok (.iload_n 1, 1) := by decide +kernel
theorem dX7_best_2 : decode cX7_best 2 = .ok (.invokevirtual 210, 3) := by decide +kernel
theorem dX7_best_5 : decode cX7_best 5 = .ok (.istore_n 2, 1) := by decide +kernel
theorem dX7_best_6 : decode cX7_best 6 = .ok (.iload_n 2, 1) := by decide +kernel
theorem dX7_best_7 : decode cX7_best 7 = .ok (.ifCond .eq 5, 3) := by decide +kernel
theorem dX7_best_10 : decode cX7_best 10 = .ok (.iload_n 2, 1) := by decide +kernel
theorem dX7_best_11 : decode cX7_best 11 = .ok (.ireturn, 1) := by decide +kernel
theorem dX7_best_12 : decode cX7_best 12 = .ok (.aload_n 0, 1) := by decide +kernel
theorem dX7_best_13 : decode cX7_best 13 = .ok (.aload_n 0, 1) := by decide +kernel
theorem dX7_best_14 : decode cX7_best 14 = .ok (.getfield 28, 3) := by decide +kernel
theorem dX7_best_17 : decode cX7_best 17 = .ok (.aload_n 0, 1) := by decide +kernel
theorem dX7_best_18 : decode cX7_best 18 = .ok (.getfield 42, 3) := by decide +kernel
theorem dX7_best_21 : decode cX7_best 21 = .ok (.getfield 228, 3) := by decide +kernel
theorem dX7_best_24 : decode cX7_best 24 = .ok (.aload_n 0, 1) := by decide +kernel
theorem dX7_best_25 : decode cX7_best 25 = .ok (.getfield 42, 3) := by decide +kernel
theorem dX7_best_28 : decode cX7_best 28 = .ok (.invokevirtual 219, 3) := by decide +kernel
theorem dX7_best_31 : decode cX7_best 31 = .ok (.invokevirtual 163, 3) := by decide +kernel
theorem dX7_best_34 : decode cX7_best 34 = .ok (.iload_n 1, 1) := by decide +kernel
theorem dX7_best_35 : decode cX7_best 35 = .ok (.invokevirtual 225, 3) := by decide +kernel
theorem dX7_best_38 : decode cX7_best 38 = .ok (.ireturn, 1) := by decide +kernel
theorem dX7_ruled_0 : decode cX7_ruled 0 = .ok (.aload_n 0, 1) := by decide +kernel
theorem dX7_ruled_1 : decode cX7_ruled 1 = .ok (.iload_n 1, 1) := by decide +kernel
theorem dX7_ruled_2 : decode cX7_ruled 2 = .ok (.invokevirtual 210, 3) := by decide +kernel
theorem dX7_ruled_5 : decode cX7_ruled 5 = .ok (.istore_n 2, 1) := by decide +kernel
theorem dX7_ruled_6 : decode cX7_ruled 6 = .ok (.iload_n 2, 1) := by decide +kernel
theorem dX7_ruled_7 : decode cX7_ruled 7 = .ok (.ifCond .eq 5, 3) := by decide +kernel
theorem dX7_ruled_10 : decode cX7_ruled 10 = .ok (.iload_n 2, 1) := by decide +kernel
theorem dX7_ruled_11 : decode cX7_ruled 11 = .ok (.ireturn, 1) := by decide +kernel
theorem dX7_ruled_12 : decode cX7_ruled 12 = .ok (.aload_n 0, 1) := by decide +kernel
theorem dX7_ruled_13 : decode cX7_ruled 13 = .ok (.aload_n 0, 1) := by decide +kernel
theorem dX7_ruled_14 : decode cX7_ruled 14 = .ok (.getfield 10, 3) := by decide +kernel
theorem dX7_ruled_17 : decode cX7_ruled 17 = .ok (.aload_n 0, 1) := by decide +kernel
theorem dX7_ruled_18 : decode cX7_ruled 18 = .ok (.getfield 42, 3) := by decide +kernel
theorem dX7_ruled_21 : decode cX7_ruled 21 = .ok (.invokevirtual 219, 3) := by decide +kernel
theorem dX7_ruled_24 : decode cX7_ruled 24 = .ok (.invokevirtual 231, 3) := by decide +kernel
theorem dX7_ruled_27 : decode cX7_ruled 27 = .ok (.iload_n 1, 1) := by decide +kernel
theorem dX7_ruled_28 : decode cX7_ruled 28 = .ok (.invokevirtual 225, 3) := by decide +kernel
theorem dX7_ruled_31 : decode cX7_ruled 31 = .ok (.ireturn, 1) := by decide +kernel
theorem dX7_undo_0 : decode cX7_undo 0 = .ok (.aload_n 0, 1) := by decide +kernel
theorem dX7_undo_1 : decode cX7_undo 1 = .ok (.getfield 42, 3) := by decide +kernel
theorem dX7_undo_4 : decode cX7_undo 4 = .ok (.getfield 57, 3) := by decide +kernel
theorem dX7_undo_7 : decode cX7_undo 7 = .ok (.ifCond .eq 37, 3) := by decide +kernel
theorem dX7_undo_10 : decode cX7_undo 10 = .ok (.aload_n 0, 1) := by decide +kernel
theorem dX7_undo_11 : decode cX7_undo 11 = .ok (.getfield 42, 3) := by decide +kernel
theorem dX7_undo_14 : decode cX7_undo 14 = .ok (.getfield 234, 3) := by decide +kernel
theorem dX7_undo_17 : decode cX7_undo 17 = .ok (.iconst 1, 1) := by decide +kernel
theorem dX7_undo_18 : decode cX7_undo 18 = .ok (.if_icmp .lt 26, 3) := by decide +kernel
theorem dX7_undo_21 : decode cX7_undo 21 = .ok (.aload_n 0, 1) := by decide +kernel
theorem dX7_undo_22 : decode cX7_undo 22 = .ok (.getfield 42, 3) := by decide +kernel
theorem dX7_undo_25 : decode cX7_undo 25 = .ok (.getfield 228, 3) := by decide +kernel
theorem dX7_undo_28 : decode cX7_undo 28 = .ok (.ifnull 16, 3) := by decide +kernel
theorem dX7_undo_31 : decode cX7_undo 31 = .ok (.aload_n 0, 1) := by decide +kernel
theorem dX7_undo_32 : decode cX7_undo 32 = .ok (.getfield 42, 3) := by decide +kernel
theorem dX7_undo_35 : decode cX7_undo 35 = .ok (.getfield 228, 3) := by decide +kernel
theorem dX7_undo_38 : decode cX7_undo 38 = .ok (.getfield 133, 3) := by decide +kernel
theorem dX7_undo_41 : decode cX7_undo 41 = .ok (.ifnonnull 6, 3) := by decide +kernel
theorem dX7_undo_44 : decode cX7_undo 44 = .ok (.bipush (-6), 2) := by decide +kernel
theorem dX7_undo_46 : decode cX7_undo 46 = .ok (.ireturn, 1) := by decide +kernel
theorem dX7_undo_47 : decode cX7_undo 47 = .ok (.aload_n 0, 1) := by decide +kernel
theorem dX7_undo_48 : decode cX7_undo 48 = .ok (.getfield 42, 3) := by decide +kernel
theorem dX7_undo_51 : decode cX7_undo 51 = .ok (.dup, 1) := by decide +kernel
theorem dX7_undo_52 : decode cX7_undo 52 = .ok (.getfield 234, 3) := by decide +kernel
theorem dX7_undo_55 : decode cX7_undo 55 = .ok (.iconst 1, 1) := by decide +kernel
theorem dX7_undo_56 : decode cX7_undo 56 = .ok (.isub, 1) := by decide +kernel
theorem dX7_undo_57 : decode cX7_undo 57 = .ok (.putfield 234, 3) := by decide +kernel
theorem dX7_undo_60 : decode cX7_undo 60 = .ok (.aload_n 0, 1) := by decide +kernel
theorem dX7_undo_61 : decode cX7_undo 61 = .ok (.getfield 42, 3) := by decide +kernel
theorem dX7_undo_64 : decode cX7_undo 64 = .ok (.aload_n 0, 1) := by decide +kernel
theorem dX7_undo_65 : decode cX7_undo 65 = .ok (.getfield 42, 3) := by decide +kernel
theorem dX7_undo_68 : decode cX7_undo 68 = .ok (.getfield 228, 3) := by decide +kernel
theorem dX7_undo_71 : decode cX7_undo 71 = .ok (.getfield 133, 3) := by decide +kernel
theorem dX7_undo_74 : decode cX7_undo 74 = .ok (.putfield 228, 3) := by decide +kernel
theorem dX7_undo_77 : decode cX7_undo 77 = .ok (.aload_n 0, 1) := by decide +kernel
theorem dX7_undo_78 : decode cX7_undo 78 = .ok (.getfield 42, 3) := by decide +kernel
theorem dX7_undo_81 : decode cX7_undo 81 = .ok (.getfield 228, 3) := by decide +kernel
theorem dX7_undo_84 : decode cX7_undo 84 = .ok (.getfield 140, 3) := by decide +kernel
theorem dX7_undo_87 : decode cX7_undo 87 = .ok (.ireturn, 1) := by decide +kernel
theorem dX7_stop_0 : decode cX7_stop 0 = .ok (.aload_n 0, 1) := by decide +kernel
theorem dX7_stop_1 : decode cX7_stop 1 = .ok (.getfield 42, 3) := by decide +kernel
theorem dX7_stop_4 : decode cX7_stop 4 = .ok (.getfield 57, 3) := by decide +kernel
theorem dX7_stop_7 : decode cX7_stop 7 = .ok (.ifCond .ne 5, 3) := by decide +kernel
theorem dX7_stop_10 : decode cX7_stop 10 = .ok (.iconst 0, 1) := by decide +kernel
theorem dX7_stop_11 : decode cX7_stop 11 = .ok (.ireturn, 1) := by decide +kernel
theorem dX7_stop_12 : decode cX7_stop 12 = .ok (.aload_n 0, 1) := by decide +kernel
theorem dX7_stop_13 : decode cX7_stop 13 = .ok (.getfield 42, 3) := by decide +kernel
theorem dX7_stop_16 : decode cX7_stop 16 = .ok (.iconst 0, 1) := by decide +kernel
theorem dX7_stop_17 : decode cX7_stop 17 = .ok (.putfield 57, 3) := by decide +kernel
theorem dX7_stop_20 : decode cX7_stop 20 = .ok (.iconst 1, 1) := by decide +kernel
theorem dX7_stop_21 : decode cX7_stop 21 = .ok (.ireturn, 1) := by decide +kernel
theorem dX7_now_0 : decode cX7_now 0 = .ok (.aload_n 0, 1) := by decide +kernel
theorem dX7_now_1 : decode cX7_now 1 = .ok (.getfield 42, 3) := by decide +kernel
theorem dX7_now_4 : decode cX7_now 4 = .ok (.getfield 57, 3) := by decide +kernel
theorem dX7_now_7 : decode cX7_now 7 = .ok (.ifCond .eq 13, 3) := by decide +kernel
theorem dX7_now_10 : decode cX7_now 10 = .ok (.aload_n 0, 1) := by decide +kernel
theorem dX7_now_11 : decode cX7_now 11 = .ok (.getfield 42, 3) := by decide +kernel
theorem dX7_now_14 : decode cX7_now 14 = .ok (.getfield 228, 3) := by decide +kernel
theorem dX7_now_17 : decode cX7_now 17 = .ok (.ifnonnull 6, 3) := by decide +kernel
theorem dX7_now_20 : decode cX7_now 20 = .ok (.bipush (-6), 2) := by decide +kernel
theorem dX7_now_22 : decode cX7_now 22 = .ok (.ireturn, 1) := by decide +kernel
theorem dX7_now_23 : decode cX7_now 23 = .ok (.iload_n 1, 1) := by decide +kernel
theorem dX7_now_24 : decode cX7_now 24 = .ok (.tableswitch 135 0 6 #[44, 55, 63, 79, 95, 111, 127], 44) := by decide +kernel
theorem dX7_now_68 : decode cX7_now 68 = .ok (.aload_n 0, 1) := by decide +kernel
theorem dX7_now_69 : decode cX7_now 69 = .ok (.getfield 42, 3) := by decide +kernel
theorem dX7_now_72 : decode cX7_now 72 = .ok (.getfield 228, 3) := by decide +kernel
theorem dX7_now_75 : decode cX7_now 75 = .ok (.getfield 130, 3) := by decide +kernel
theorem dX7_now_78 : decode cX7_now 78 = .ok (.ireturn, 1) := by decide +kernel
theorem dX7_now_79 : decode cX7_now 79 = .ok (.aload_n 0, 1) := by decide +kernel
theorem dX7_now_80 : decode cX7_now 80 = .ok (.getfield 42, 3) := by decide +kernel
theorem dX7_now_83 : decode cX7_now 83 = .ok (.invokevirtual 219, 3) := by decide +kernel
theorem dX7_now_86 : decode cX7_now 86 = .ok (.ireturn, 1) := by decide +kernel
theorem dX7_now_87 : decode cX7_now 87 = .ok (.aload_n 0, 1) := by decide +kernel
theorem dX7_now_88 : decode cX7_now 88 = .ok (.getfield 42, 3) := by decide +kernel
theorem dX7_now_91 : decode cX7_now 91 = .ok (.getfield 237, 3) := by decide +kernel
theorem dX7_now_94 : decode cX7_now 94 = .ok (.aload_n 0, 1) := by decide +kernel
theorem dX7_now_95 : decode cX7_now 95 = .ok (.getfield 42, 3) := by decide +kernel
theorem dX7_now_98 : decode cX7_now 98 = .ok (.getfield 234, 3) := by decide +kernel
theorem dX7_now_101 : decode cX7_now 101 = .ok (.iaload, 1) := by decide +kernel
theorem dX7_now_102 : decode cX7_now 102 = .ok (.ireturn, 1) := by decide +kernel
theorem dX7_now_103 : decode cX7_now 103 = .ok (.aload_n 0, 1) := by decide +kernel
theorem dX7_now_104 : decode cX7_now 104 = .ok (.getfield 42, 3) := by decide +kernel
theorem dX7_now_107 : decode cX7_now 107 = .ok (.getfield 240, 3) := by decide +kernel
theorem dX7_now_110 : decode cX7_now 110 = .ok (.aload_n 0, 1) := by decide +kernel
theorem dX7_now_111 : decode cX7_now 111 = .ok (.getfield 42, 3) := by decide +kernel
theorem dX7_now_114 : decode cX7_now 114 = .ok (.getfield 234, 3) := by decide +kernel
theorem dX7_now_117 : decode cX7_now 117 = .ok (.iaload, 1) := by decide +kernel
theorem dX7_now_118 : decode cX7_now 118 = .ok (.ireturn, 1) := by decide +kernel
theorem dX7_now_119 : decode cX7_now 119 = .ok (.aload_n 0, 1) := by decide +kernel
theorem dX7_now_120 : decode cX7_now 120 = .ok (.getfield 42, 3) := by decide +kernel
theorem dX7_now_123 : decode cX7_now 123 = .ok (.getfield 243, 3) := by decide +kernel
theorem dX7_now_126 : decode cX7_now 126 = .ok (.aload_n 0, 1) := by decide +kernel
theorem dX7_now_127 : decode cX7_now 127 = .ok (.getfield 42, 3) := by decide +kernel
theorem dX7_now_130 : decode cX7_now 130 = .ok (.getfield 234, 3) := by decide +kernel
theorem dX7_now_133 : decode cX7_now 133 = .ok (.iaload, 1) := by decide +kernel
theorem dX7_now_134 : decode cX7_now 134 = .ok (.ireturn, 1) := by decide +kernel
theorem dX7_now_135 : decode cX7_now 135 = .ok (.aload_n 0, 1) := by decide +kernel
theorem dX7_now_136 : decode cX7_now 136 = .ok (.getfield 42, 3) := by decide +kernel
theorem dX7_now_139 : decode cX7_now 139 = .ok (.getfield 246, 3) := by decide +kernel
theorem dX7_now_142 : decode cX7_now 142 = .ok (.aload_n 0, 1) := by decide +kernel
theorem dX7_now_143 : decode cX7_now 143 = .ok (.getfield 42, 3) := by decide +kernel
theorem dX7_now_146 : decode cX7_now 146 = .ok (.getfield 234, 3) := by decide +kernel
theorem dX7_now_149 : decode cX7_now 149 = .ok (.iaload, 1) := by decide +kernel
theorem dX7_now_150 : decode cX7_now 150 = .ok (.ireturn, 1) := by decide +kernel
theorem dX7_now_151 : decode cX7_now 151 = .ok (.aload_n 0, 1) := by decide +kernel
theorem dX7_now_152 : decode cX7_now 152 = .ok (.getfield 42, 3) := by decide +kernel
theorem dX7_now_155 : decode cX7_now 155 = .ok (.getfield 234, 3) := by decide +kernel
theorem dX7_now_158 : decode cX7_now 158 = .ok (.ireturn, 1) := by decide +kernel
theorem dX7_now_159 : decode cX7_now 159 = .ok (.iconst (-1), 1) := by decide +kernel
theorem dX7_now_160 : decode cX7_now 160 = .ok (.ireturn, 1) := by decide +kernel
theorem dX7_isWithin_0 : decode cX7_isWithin 0 = .ok (.iload_n 0, 1) := by decide +kernel
theorem dX7_isWithin_1 : decode cX7_isWithin 1 = .ok (.ifCond .lt 12, 3) := by decide +kernel
theorem dX7_isWithin_4 : decode cX7_isWithin 4 = .ok (.iload_n 0, 1) := by decide +kernel
theorem dX7_isWithin_5 : decode cX7_isWithin 5 = .ok (.iload_n 1, 1) := by decide +kernel
theorem dX7_isWithin_6 : decode cX7_isWithin 6 = .ok (.if_icmp .gt 7, 3) := by decide +kernel
theorem dX7_isWithin_9 : decode cX7_isWithin 9 = .ok (.iconst 1, 1) := by decide +kernel
theorem dX7_isWithin_10 : decode cX7_isWithin 10 = .ok (.goto 4, 3) := by decide +kernel
theorem dX7_isWithin_13 : decode cX7_isWithin 13 = .ok (.iconst 0, 1) := by decide +kernel
theorem dX7_isWithin_14 : decode cX7_isWithin 14 = .ok (.ireturn, 1) := by decide +kernel
theorem dX7_isWhole_0 : decode cX7_isWhole 0 = .ok (.aload_n 0, 1) := by decide +kernel
theorem dX7_isWhole_1 : decode cX7_isWhole 1 = .ok (.getfield 10, 3) := by decide +kernel
theorem dX7_isWhole_4 : decode cX7_isWhole 4 = .ok (.getfield 50, 3) := by decide +kernel
theorem dX7_isWhole_7 : decode cX7_isWhole 7 = .ok (.ifCond .le 17, 3) := by decide +kernel
theorem dX7_isWhole_10 : decode cX7_isWhole 10 = .ok (.aload_n 0, 1) := by decide +kernel
theorem dX7_isWhole_11 : decode cX7_isWhole 11 = .ok (.getfield 19, 3) := by decide +kernel
theorem dX7_isWhole_14 : decode cX7_isWhole 14 = .ok (.invokevirtual 249, 3) := by decide +kernel
theorem dX7_isWhole_17 : decode cX7_isWhole 17 = .ok (.ifCond .eq 7, 3) := by decide +kernel
theorem dX7_isWhole_20 : decode cX7_isWhole 20 = .ok (.iconst 1, 1) := by decide +kernel
theorem dX7_isWhole_21 : decode cX7_isWhole 21 = .ok (.goto 4, 3) := by decide +kernel
theorem dX7_isWhole_24 : decode cX7_isWhole 24 = .ok (.iconst 0, 1) := by decide +kernel
theorem dX7_isWhole_25 : decode cX7_isWhole 25 = .ok (.ireturn, 1) := by decide +kernel
theorem dX7_refusalOfWeek_0 : decode cX7_refusalOfWeek 0 = .ok (.aload_n 0, 1) := by decide +kernel
theorem dX7_refusalOfWeek_1 : decode cX7_refusalOfWeek 1 = .ok (.getfield 42, 3) := by decide +kernel
theorem dX7_refusalOfWeek_4 : decode cX7_refusalOfWeek 4 = .ok (.getfield 57, 3) := by decide +kernel
theorem dX7_refusalOfWeek_7 : decode cX7_refusalOfWeek 7 = .ok (.ifCond .eq 13, 3) := by decide +kernel
theorem dX7_refusalOfWeek_10 : decode cX7_refusalOfWeek 10 = .ok (.aload_n 0, 1) := by decide +kernel
theorem dX7_refusalOfWeek_11 : decode cX7_refusalOfWeek 11 = .ok (.getfield 42, 3) := by decide +kernel
theorem dX7_refusalOfWeek_14 : decode cX7_refusalOfWeek 14 = .ok (.getfield 228, 3) := by decide +kernel
theorem dX7_refusalOfWeek_17 : decode cX7_refusalOfWeek 17 = .ok (.ifnonnull 6, 3) := by decide +kernel
theorem dX7_refusalOfWeek_20 : decode cX7_refusalOfWeek 20 = .ok (.bipush (-6), 2) := by decide +kernel
theorem dX7_refusalOfWeek_22 : decode cX7_refusalOfWeek 22 = .ok (.ireturn, 1) := by decide +kernel
theorem dX7_refusalOfWeek_23 : decode cX7_refusalOfWeek 23 = .ok (.aload_n 0, 1) := by decide +kernel
theorem dX7_refusalOfWeek_24 : decode cX7_refusalOfWeek 24 = .ok (.getfield 19, 3) := by decide +kernel
theorem dX7_refusalOfWeek_27 : decode cX7_refusalOfWeek 27 = .ok (.aload_n 0, 1) := by decide +kernel
theorem dX7_refusalOfWeek_28 : decode cX7_refusalOfWeek 28 = .ok (.getfield 42, 3) := by decide +kernel
theorem dX7_refusalOfWeek_31 : decode cX7_refusalOfWeek 31 = .ok (.getfield 228, 3) := by decide +kernel
theorem dX7_refusalOfWeek_34 : decode cX7_refusalOfWeek 34 = .ok (.invokevirtual 103, 3) := by decide +kernel
theorem dX7_refusalOfWeek_37 : decode cX7_refusalOfWeek 37 = .ok (.ifCond .eq 6, 3) := by decide +kernel
theorem dX7_refusalOfWeek_40 : decode cX7_refusalOfWeek 40 = .ok (.bipush (-4), 2) := by decide +kernel
theorem dX7_refusalOfWeek_42 : decode cX7_refusalOfWeek 42 = .ok (.ireturn, 1) := by decide +kernel
theorem dX7_refusalOfWeek_43 : decode cX7_refusalOfWeek 43 = .ok (.aload_n 0, 1) := by decide +kernel
theorem dX7_refusalOfWeek_44 : decode cX7_refusalOfWeek 44 = .ok (.getfield 42, 3) := by decide +kernel
theorem dX7_refusalOfWeek_47 : decode cX7_refusalOfWeek 47 = .ok (.getfield 228, 3) := by decide +kernel
theorem dX7_refusalOfWeek_50 : decode cX7_refusalOfWeek 50 = .ok (.iload_n 1, 1) := by decide +kernel
theorem dX7_refusalOfWeek_51 : decode cX7_refusalOfWeek 51 = .ok (.invokevirtual 252, 3) := by decide +kernel
theorem dX7_refusalOfWeek_54 : decode cX7_refusalOfWeek 54 = .ok (.ifnonnull 7, 3) := by decide +kernel
theorem dX7_refusalOfWeek_57 : decode cX7_refusalOfWeek 57 = .ok (.iconst (-1), 1) := by decide +kernel
theorem dX7_refusalOfWeek_58 : decode cX7_refusalOfWeek 58 = .ok (.goto 4, 3) := by decide +kernel
theorem dX7_refusalOfWeek_61 : decode cX7_refusalOfWeek 61 = .ok (.iconst 0, 1) := by decide +kernel
theorem dX7_refusalOfWeek_62 : decode cX7_refusalOfWeek 62 = .ok (.ireturn, 1) := by decide +kernel
theorem dX7_letWeek_0 : decode cX7_letWeek 0 = .ok (.aload_n 0, 1) := by decide +kernel
theorem dX7_letWeek_1 : decode cX7_letWeek 1 = .ok (.getfield 42, 3) := by decide +kernel
theorem dX7_letWeek_4 : decode cX7_letWeek 4 = .ok (.getfield 228, 3) := by decide +kernel
theorem dX7_letWeek_7 : decode cX7_letWeek 7 = .ok (.ifnonnull 7, 3) := by decide +kernel
theorem dX7_letWeek_10 : decode cX7_letWeek 10 = .ok (.aconst_null, 1) := by decide +kernel
theorem dX7_letWeek_11 : decode cX7_letWeek 11 = .ok (.goto 14, 3) := by decide +kernel
theorem dX7_letWeek_14 : decode cX7_letWeek 14 = .ok (.aload_n 0, 1) := by decide +kernel
theorem dX7_letWeek_15 : decode cX7_letWeek 15 = .ok (.getfield 42, 3) := by decide +kernel
theorem dX7_letWeek_18 : decode cX7_letWeek 18 = .ok (.getfield 228, 3) := by decide +kernel
theorem dX7_letWeek_21 : decode cX7_letWeek 21 = .ok (.iload_n 2, 1) := by decide +kernel
theorem dX7_letWeek_22 : decode cX7_letWeek 22 = .ok (.invokevirtual 252, 3) := by decide +kernel
theorem dX7_letWeek_25 : decode cX7_letWeek 25 = .ok (.astore_n 3, 1) := by decide +kernel
theorem dX7_letWeek_26 : decode cX7_letWeek 26 = .ok (.aload_n 3, 1) := by decide +kernel
theorem dX7_letWeek_27 : decode cX7_letWeek 27 = .ok (.ifnonnull 5, 3) := by decide +kernel
theorem dX7_letWeek_30 : decode cX7_letWeek 30 = .ok (.iconst (-1), 1) := by decide +kernel
theorem dX7_letWeek_31 : decode cX7_letWeek 31 = .ok (.ireturn, 1) := by decide +kernel
theorem dX7_letWeek_32 : decode cX7_letWeek 32 = .ok (.aload_n 0, 1) := by decide +kernel
theorem dX7_letWeek_33 : decode cX7_letWeek 33 = .ok (.getfield 19, 3) := by decide +kernel
theorem dX7_letWeek_36 : decode cX7_letWeek 36 = .ok (.aload_n 0, 1) := by decide +kernel
theorem dX7_letWeek_37 : decode cX7_letWeek 37 = .ok (.getfield 42, 3) := by decide +kernel
theorem dX7_letWeek_40 : decode cX7_letWeek 40 = .ok (.getfield 228, 3) := by decide +kernel
theorem dX7_letWeek_43 : decode cX7_letWeek 43 = .ok (.invokevirtual 255, 3) := by decide +kernel
theorem dX7_letWeek_46 : decode cX7_letWeek 46 = .ok (.aload_n 0, 1) := by decide +kernel
theorem dX7_letWeek_47 : decode cX7_letWeek 47 = .ok (.getfield 10, 3) := by decide +kernel
theorem dX7_letWeek_50 : decode cX7_letWeek 50 = .ok (.aload_n 0, 1) := by decide +kernel
theorem dX7_letWeek_51 : decode cX7_letWeek 51 = .ok (.getfield 42, 3) := by decide +kernel
theorem dX7_letWeek_54 : decode cX7_letWeek 54 = .ok (.invokevirtual 219, 3) := by decide +kernel
theorem dX7_letWeek_57 : decode cX7_letWeek 57 = .ok (.iload_n 1, 1) := by decide +kernel
theorem dX7_letWeek_58 : decode cX7_letWeek 58 = .ok (.invokevirtual 259, 3) := by decide +kernel
theorem dX7_letWeek_61 : decode cX7_letWeek 61 = .ok (.imul, 1) := by decide +kernel
theorem dX7_letWeek_62 : decode cX7_letWeek 62 = .ok (.istore 4, 2) := by decide +kernel
theorem dX7_letWeek_64 : decode cX7_letWeek 64 = .ok (.aload_n 0, 1) := by decide +kernel
theorem dX7_letWeek_65 : decode cX7_letWeek 65 = .ok (.getfield 10, 3) := by decide +kernel
theorem dX7_letWeek_68 : decode cX7_letWeek 68 = .ok (.aload_n 0, 1) := by decide +kernel
theorem dX7_letWeek_69 : decode cX7_letWeek 69 = .ok (.getfield 42, 3) := by decide +kernel
theorem dX7_letWeek_72 : decode cX7_letWeek 72 = .ok (.invokevirtual 219, 3) := by decide +kernel
theorem dX7_letWeek_75 : decode cX7_letWeek 75 = .ok (.iload_n 1, 1) := by decide +kernel
theorem dX7_letWeek_76 : decode cX7_letWeek 76 = .ok (.aload_n 3, 1) := by decide +kernel
theorem dX7_letWeek_77 : decode cX7_letWeek 77 = .ok (.getfield 123, 3) := by decide +kernel
theorem dX7_letWeek_80 : decode cX7_letWeek 80 = .ok (.invokevirtual 262, 3) := by decide +kernel
theorem dX7_letWeek_83 : decode cX7_letWeek 83 = .ok (.istore 5, 2) := by decide +kernel
theorem dX7_letWeek_85 : decode cX7_letWeek 85 = .ok (.aload_n 0, 1) := by decide +kernel
theorem dX7_letWeek_86 : decode cX7_letWeek 86 = .ok (.getfield 42, 3) := by decide +kernel
theorem dX7_letWeek_89 : decode cX7_letWeek 89 = .ok (.aload_n 3, 1) := by decide +kernel
theorem dX7_letWeek_90 : decode cX7_letWeek 90 = .ok (.iload 5, 2) := by decide +kernel
theorem dX7_letWeek_92 : decode cX7_letWeek 92 = .ok (.iload 4, 2) := by decide +kernel
theorem dX7_letWeek_94 : decode cX7_letWeek 94 = .ok (.aload_n 0, 1) := by decide +kernel
theorem dX7_letWeek_95 : decode cX7_letWeek 95 = .ok (.getfield 10, 3) := by decide +kernel
theorem dX7_letWeek_98 : decode cX7_letWeek 98 = .ok (.getfield 266, 3) := by decide +kernel
theorem dX7_letWeek_101 : decode cX7_letWeek 101 = .ok (.iload_n 1, 1) := by decide +kernel
theorem dX7_letWeek_102 : decode cX7_letWeek 102 = .ok (.aload_n 0, 1) := by decide +kernel
theorem dX7_letWeek_103 : decode cX7_letWeek 103 = .ok (.getfield 10, 3) := by decide +kernel
theorem dX7_letWeek_106 : decode cX7_letWeek 106 = .ok (.getfield 50, 3) := by decide +kernel
theorem dX7_letWeek_109 : decode cX7_letWeek 109 = .ok (.iconst 1, 1) := by decide +kernel
theorem dX7_letWeek_110 : decode cX7_letWeek 110 = .ok (.isub, 1) := by decide +kernel
theorem dX7_letWeek_111 : decode cX7_letWeek 111 = .ok (.invokestatic 167, 3) := by decide +kernel
theorem dX7_letWeek_114 : decode cX7_letWeek 114 = .ok (.invokevirtual 268, 3) := by decide +kernel
theorem dX7_letWeek_117 : decode cX7_letWeek 117 = .ok (.iload 4, 2) := by decide +kernel
theorem dX7_letWeek_119 : decode cX7_letWeek 119 = .ok (.ireturn, 1) := by decide +kernel
theorem dX8_in_0 : decode cX8_in 0 = .ok (.iload_n 0, 1) := by decide +kernel
theorem dX8_in_1 : decode cX8_in 1 = .ok (.iload_n 1, 1) := by decide +kernel
theorem dX8_in_2 : decode cX8_in 2 = .ok (.if_icmp .lt 12, 3) := by decide +kernel
theorem dX8_in_5 : decode cX8_in 5 = .ok (.iload_n 0, 1) := by decide +kernel
theorem dX8_in_6 : decode cX8_in 6 = .ok (.iload_n 2, 1) := by decide +kernel
theorem dX8_in_7 : decode cX8_in 7 = .ok (.if_icmp .gt 7, 3) := by decide +kernel
theorem dX8_in_10 : decode cX8_in 10 = .ok (.iconst 1, 1) := by decide +kernel
theorem dX8_in_11 : decode cX8_in 11 = .ok (.goto 4, 3) := by decide +kernel
theorem dX8_in_14 : decode cX8_in 14 = .ok (.iconst 0, 1) := by decide +kernel
theorem dX8_in_15 : decode cX8_in 15 = .ok (.ireturn, 1) := by decide +kernel
theorem dX8_init_0 : decode cX8_init 0 = .ok (.aload_n 0, 1) := by decide +kernel
theorem dX8_init_1 : decode cX8_init 1 = .ok (.invokespecial 7, 3) := by decide +kernel
theorem dX8_init_4 : decode cX8_init 4 = .ok (.aload_n 0, 1) := by decide +kernel
theorem dX8_init_5 : decode cX8_init 5 = .ok (.iconst 3, 1) := by decide +kernel
theorem dX8_init_6 : decode cX8_init 6 = .ok (.newarray .int, 2) := by decide +kernel
theorem dX8_init_8 : decode cX8_init 8 = .ok (.putfield 13, 3) := by decide +kernel
theorem dX8_init_11 : decode cX8_init 11 = .ok (.aload_n 0, 1) := by decide +kernel
theorem dX8_init_12 : decode cX8_init 12 = .ok (.iconst 3, 1) := by decide +kernel
theorem dX8_init_13 : decode cX8_init 13 = .ok (.newarray .int, 2) := by decide +kernel
theorem dX8_init_15 : decode cX8_init 15 = .ok (.putfield 17, 3) := by decide +kernel
theorem dX8_init_18 : decode cX8_init 18 = .ok (.aload_n 0, 1) := by decide +kernel
theorem dX8_init_19 : decode cX8_init 19 = .ok (.iconst 3, 1) := by decide +kernel
theorem dX8_init_20 : decode cX8_init 20 = .ok (.newarray .int, 2) := by decide +kernel
theorem dX8_init_22 : decode cX8_init 22 = .ok (.putfield 20, 3) := by decide +kernel
theorem dX8_init_25 : decode cX8_init 25 = .ok (.aload_n 0, 1) := by decide +kernel
theorem dX8_init_26 : decode cX8_init 26 = .ok (.iconst 3, 1) := by decide +kernel
theorem dX8_init_27 : decode cX8_init 27 = .ok (.newarray .int, 2) := by decide +kernel
theorem dX8_init_29 : decode cX8_init 29 = .ok (.putfield 23, 3) := by decide +kernel
theorem dX8_init_32 : decode cX8_init 32 = .ok (.aload_n 0, 1) := by decide +kernel
theorem dX8_init_33 : decode cX8_init 33 = .ok (.bipush 93, 2) := by decide +kernel
theorem dX8_init_35 : decode cX8_init 35 = .ok (.newarray .int, 2) := by decide +kernel
end
section
theorem dX8_init_37 : decode cX8_init 37 = .ok (.putfield 26, 3) := by decide +kernel
theorem dX8_init_40 : decode cX8_init 40 = .ok (.aload_n 0, 1) := by decide +kernel
theorem dX8_init_41 : decode cX8_init 41 = .ok (.iconst 3, 1) := by decide +kernel
theorem dX8_init_42 : decode cX8_init 42 = .ok (.newarray .int, 2) := by decide +kernel
theorem dX8_init_44 : decode cX8_init 44 = .ok (.putfield 29, 3) := by decide +kernel
theorem dX8_init_47 : decode cX8_init 47 = .ok (.aload_n 0, 1) := by decide +kernel
theorem dX8_init_48 : decode cX8_init 48 = .ok (.iconst 1, 1) := by decide +kernel
theorem dX8_init_49 : decode cX8_init 49 = .ok (.putfield 32, 3) := by decide +kernel
theorem dX8_init_52 : decode cX8_init 52 = .ok (.aload_n 0, 1) := by decide +kernel
theorem dX8_init_53 : decode cX8_init 53 = .ok (.iconst 1, 1) := by decide +kernel
theorem dX8_init_54 : decode cX8_init 54 = .ok (.putfield 35, 3) := by decide +kernel
theorem dX8_init_57 : decode cX8_init 57 = .ok (.aload_n 0, 1) := by decide +kernel
theorem dX8_init_58 : decode cX8_init 58 = .ok (.bipush 10, 2) := by decide +kernel
theorem dX8_init_60 : decode cX8_init 60 = .ok (.newarray .int, 2) := by decide +kernel
theorem dX8_init_62 : decode cX8_init 62 = .ok (.dup, 1) := by decide +kernel
theorem dX8_init_63 : decode cX8_init 63 = .ok (.iconst 0, 1) := by decide +kernel
theorem dX8_init_64 : decode cX8_init 64 = .ok (.iconst 1, 1) := by decide +kernel
theorem dX8_init_65 : decode cX8_init 65 = .ok (.iastore, 1) := by decide +kernel
theorem dX8_init_66 : decode cX8_init 66 = .ok (.dup, 1) := by decide +kernel
theorem dX8_init_67 : decode cX8_init 67 = .ok (.iconst 1, 1) := by decide +kernel
theorem dX8_init_68 : decode cX8_init 68 = .ok (.iconst 1, 1) := by decide +kernel
theorem dX8_init_69 : decode cX8_init 69 = .ok (.iastore, 1) := by decide +kernel
theorem dX8_init_70 : decode cX8_init 70 = .ok (.dup, 1) := by decide +kernel
theorem dX8_init_71 : decode cX8_init 71 = .ok (.iconst 2, 1) := by decide +kernel
theorem dX8_init_72 : decode cX8_init 72 = .ok (.iconst 1, 1) := by decide +kernel
theorem dX8_init_73 : decode cX8_init 73 = .ok (.iastore, 1) := by decide +kernel
theorem dX8_init_74 : decode cX8_init 74 = .ok (.dup, 1) := by decide +kernel
theorem dX8_init_75 : decode cX8_init 75 = .ok (.iconst 3, 1) := by decide +kernel
theorem dX8_init_76 : decode cX8_init 76 = .ok (.iconst 1, 1) := by decide +kernel
theorem dX8_init_77 : decode cX8_init 77 = .ok (.iastore, 1) := by decide +kernel
theorem dX8_init_78 : decode cX8_init 78 = .ok (.dup, 1) := by decide +kernel
theorem dX8_init_79 : decode cX8_init 79 = .ok (.iconst 4, 1) := by decide +kernel
theorem dX8_init_80 : decode cX8_init 80 = .ok (.iconst 1, 1) := by decide +kernel
theorem dX8_init_81 : decode cX8_init 81 = .ok (.iastore, 1) := by decide +kernel
theorem dX8_init_82 : decode cX8_init 82 = .ok (.dup, 1) := by decide +kernel
theorem dX8_init_83 : decode cX8_init 83 = .ok (.iconst 5, 1) := by decide +kernel
theorem dX8_init_84 : decode cX8_init 84 = .ok (.iconst 1, 1) := by decide +kernel
theorem dX8_init_85 : decode cX8_init 85 = .ok (.iastore, 1) := by decide +kernel
theorem dX8_init_86 : decode cX8_init 86 = .ok (.dup, 1) := by decide +kernel
theorem dX8_init_87 : decode cX8_init 87 = .ok (.bipush 6, 2) := by decide +kernel
theorem dX8_init_89 : decode cX8_init 89 = .ok (.iconst 1, 1) := by decide +kernel
theorem dX8_init_90 : decode cX8_init 90 = .ok (.iastore, 1) := by decide +kernel
theorem dX8_init_91 : decode cX8_init 91 = .ok (.dup, 1) := by decide +kernel
theorem dX8_init_92 : decode cX8_init 92 = .ok (.bipush 7, 2) := by decide +kernel
theorem dX8_init_94 : decode cX8_init 94 = .ok (.iconst 1, 1) := by decide +kernel
theorem dX8_init_95 : decode cX8_init 95 = .ok (.iastore, 1) := by decide +kernel
theorem dX8_init_96 : decode cX8_init 96 = .ok (.dup, 1) := by decide +kernel
theorem dX8_init_97 : decode cX8_init 97 = .ok (.bipush 8, 2) := by decide +kernel
theorem dX8_init_99 : decode cX8_init 99 = .ok (.iconst 1, 1) := by decide +kernel
theorem dX8_init_100 : decode cX8_init 100 = .ok (.iastore, 1) := by decide +kernel
theorem dX8_init_101 : decode cX8_init 101 = .ok (.dup, 1) := by decide +kernel
theorem dX8_init_102 : decode cX8_init 102 = .ok (.bipush 9, 2) := by decide +kernel
theorem dX8_init_104 : decode cX8_init 104 = .ok (.iconst 1, 1) := by decide +kernel
theorem dX8_init_105 : decode cX8_init 105 = .ok (.iastore, 1) := by decide +kernel
theorem dX8_init_106 : decode cX8_init 106 = .ok (.putfield 38, 3) := by decide +kernel
theorem dX8_init_109 : decode cX8_init 109 = .ok (.aload_n 0, 1) := by decide +kernel
theorem dX8_init_110 : decode cX8_init 110 = .ok (.iconst 1, 1) := by decide +kernel
theorem dX8_init_111 : decode cX8_init 111 = .ok (.putfield 41, 3) := by decide +kernel
theorem dX8_init_114 : decode cX8_init 114 = .ok (.aload_n 0, 1) := by decide +kernel
theorem dX8_init_115 : decode cX8_init 115 = .ok (.bipush 81, 2) := by decide +kernel
theorem dX8_init_117 : decode cX8_init 117 = .ok (.newarray .int, 2) := by decide +kernel
theorem dX8_init_119 : decode cX8_init 119 = .ok (.putfield 44, 3) := by decide +kernel
theorem dX8_init_122 : decode cX8_init 122 = .ok (.aload_n 0, 1) := by decide +kernel
theorem dX8_init_123 : decode cX8_init 123 = .ok (.bipush 81, 2) := by decide +kernel
theorem dX8_init_125 : decode cX8_init 125 = .ok (.newarray .int, 2) := by decide +kernel
theorem dX8_init_127 : decode cX8_init 127 = .ok (.putfield 47, 3) := by decide +kernel
theorem dX8_init_130 : decode cX8_init 130 = .ok (.aload_n 0, 1) := by decide +kernel
theorem dX8_init_131 : decode cX8_init 131 = .ok (.bipush 81, 2) := by decide +kernel
theorem dX8_init_133 : decode cX8_init 133 = .ok (.newarray .int, 2) := by decide +kernel
theorem dX8_init_135 : decode cX8_init 135 = .ok (.putfield 50, 3) := by decide +kernel
theorem dX8_init_138 : decode cX8_init 138 = .ok (.aload_n 0, 1) := by decide +kernel
theorem dX8_init_139 : decode cX8_init 139 = .ok (.sipush 243, 3) := by decide +kernel
theorem dX8_init_142 : decode cX8_init 142 = .ok (.newarray .int, 2) := by decide +kernel
theorem dX8_init_144 : decode cX8_init 144 = .ok (.putfield 53, 3) := by decide +kernel
theorem dX8_init_147 : decode cX8_init 147 = .ok (.aload_n 0, 1) := by decide +kernel
theorem dX8_init_148 : decode cX8_init 148 = .ok (.iconst 3, 1) := by decide +kernel
theorem dX8_init_149 : decode cX8_init 149 = .ok (.newarray .int, 2) := by decide +kernel
theorem dX8_init_151 : decode cX8_init 151 = .ok (.putfield 56, 3) := by decide +kernel
theorem dX8_init_154 : decode cX8_init 154 = .ok (.aload_n 0, 1) := by decide +kernel
theorem dX8_init_155 : decode cX8_init 155 = .ok (.iconst 3, 1) := by decide +kernel
theorem dX8_init_156 : decode cX8_init 156 = .ok (.newarray .int, 2) := by decide +kernel
theorem dX8_init_158 : decode cX8_init 158 = .ok (.putfield 59, 3) := by decide +kernel
theorem dX8_init_161 : decode cX8_init 161 = .ok (.aload_n 0, 1) := by decide +kernel
theorem dX8_init_162 : decode cX8_init 162 = .ok (.ldc 62, 2) := by decide +kernel
theorem dX8_init_164 : decode cX8_init 164 = .ok (.newarray .boolean, 2) := by decide +kernel
theorem dX8_init_166 : decode cX8_init 166 = .ok (.putfield 63, 3) := by decide +kernel
theorem dX8_init_169 : decode cX8_init 169 = .ok (.aload_n 0, 1) := by decide +kernel
theorem dX8_init_170 : decode cX8_init 170 = .ok (.ldc 62, 2) := by decide +kernel
theorem dX8_init_172 : decode cX8_init 172 = .ok (.newarray .boolean, 2) := by decide +kernel
theorem dX8_init_174 : decode cX8_init 174 = .ok (.putfield 67, 3) := by decide +kernel
theorem dX8_init_177 : decode cX8_init 177 = .ok (.aload_n 0, 1) := by decide +kernel
theorem dX8_init_178 : decode cX8_init 178 = .ok (.ldc 62, 2) := by decide +kernel
theorem dX8_init_180 : decode cX8_init 180 = .ok (.newarray .long, 2) := by decide +kernel
theorem dX8_init_182 : decode cX8_init 182 = .ok (.putfield 70, 3) := by decide +kernel
theorem dX8_init_185 : decode cX8_init 185 = .ok (.aload_n 0, 1) := by decide +kernel
theorem dX8_init_186 : decode cX8_init 186 = .ok (.ldc 62, 2) := by decide +kernel
theorem dX8_init_188 : decode cX8_init 188 = .ok (.newarray .int, 2) := by decide +kernel
theorem dX8_init_190 : decode cX8_init 190 = .ok (.putfield 74, 3) := by decide +kernel
theorem dX8_init_193 : decode cX8_init 193 = .ok (.aload_n 0, 1) := by decide +kernel
theorem dX8_init_194 : decode cX8_init 194 = .ok (.iconst 3, 1) := by decide +kernel
theorem dX8_init_195 : decode cX8_init 195 = .ok (.newarray .int, 2) := by decide +kernel
theorem dX8_init_197 : decode cX8_init 197 = .ok (.putfield 77, 3) := by decide +kernel
theorem dX8_init_200 : decode cX8_init 200 = .ok (.aload_n 0, 1) := by decide +kernel
theorem dX8_init_201 : decode cX8_init 201 = .ok (.iconst 3, 1) := by decide +kernel
theorem dX8_init_202 : decode cX8_init 202 = .ok (.newarray .int, 2) := by decide +kernel
theorem dX8_init_204 : decode cX8_init 204 = .ok (.putfield 80, 3) := by decide +kernel
theorem dX8_init_207 : decode cX8_init 207 = .ok (.aload_n 0, 1) := by decide +kernel
theorem dX8_init_208 : decode cX8_init 208 = .ok (.bipush 81, 2) := by decide +kernel
theorem dX8_init_210 : decode cX8_init 210 = .ok (.newarray .boolean, 2) := by decide +kernel
theorem dX8_init_212 : decode cX8_init 212 = .ok (.putfield 83, 3) := by decide +kernel
theorem dX8_init_215 : decode cX8_init 215 = .ok (.aload_n 0, 1) := by decide +kernel
theorem dX8_init_216 : decode cX8_init 216 = .ok (.bipush 81, 2) := by decide +kernel
theorem dX8_init_218 : decode cX8_init 218 = .ok (.newarray .int, 2) := by decide +kernel
theorem dX8_init_220 : decode cX8_init 220 = .ok (.putfield 86, 3) := by decide +kernel
theorem dX8_init_223 : decode cX8_init 223 = .ok (.aload_n 0, 1) := by decide +kernel
theorem dX8_init_224 : decode cX8_init 224 = .ok (.bipush 81, 2) := by decide +kernel
theorem dX8_init_226 : decode cX8_init 226 = .ok (.newarray .int, 2) := by decide +kernel
theorem dX8_init_228 : decode cX8_init 228 = .ok (.putfield 89, 3) := by decide +kernel
theorem dX8_init_231 : decode cX8_init 231 = .ok (.aload_n 0, 1) := by decide +kernel
theorem dX8_init_232 : decode cX8_init 232 = .ok (.bipush 81, 2) := by decide +kernel
theorem dX8_init_234 : decode cX8_init 234 = .ok (.newarray .boolean, 2) := by decide +kernel
theorem dX8_init_236 : decode cX8_init 236 = .ok (.putfield 92, 3) := by decide +kernel
theorem dX8_init_239 : decode cX8_init 239 = .ok (.aload_n 0, 1) := by decide +kernel
theorem dX8_init_240 : decode cX8_init 240 = .ok (.bipush 81, 2) := by decide +kernel
theorem dX8_init_242 : decode cX8_init 242 = .ok (.newarray .long, 2) := by decide +kernel
theorem dX8_init_244 : decode cX8_init 244 = .ok (.putfield 95, 3) := by decide +kernel
theorem dX8_init_247 : decode cX8_init 247 = .ok (.aload_n 0, 1) := by decide +kernel
theorem dX8_init_248 : decode cX8_init 248 = .ok (.bipush 81, 2) := by decide +kernel
theorem dX8_init_250 : decode cX8_init 250 = .ok (.newarray .int, 2) := by decide +kernel
theorem dX8_init_252 : decode cX8_init 252 = .ok (.putfield 98, 3) := by decide +kernel
theorem dX8_init_255 : decode cX8_init 255 = .ok (.aload_n 0, 1) := by decide +kernel
theorem dX8_init_256 : decode cX8_init 256 = .ok (.bipush 11, 2) := by decide +kernel
theorem dX8_init_258 : decode cX8_init 258 = .ok (.newarray .int, 2) := by decide +kernel
theorem dX8_init_260 : decode cX8_init 260 = .ok (.putfield 101, 3) := by decide +kernel
theorem dX8_init_263 : decode cX8_init 263 = .ok (.aload_n 0, 1) := by decide +kernel
theorem dX8_init_264 : decode cX8_init 264 = .ok (.bipush 11, 2) := by decide +kernel
theorem dX8_init_266 : decode cX8_init 266 = .ok (.newarray .int, 2) := by decide +kernel
theorem dX8_init_268 : decode cX8_init 268 = .ok (.putfield 104, 3) := by decide +kernel
theorem dX8_init_271 : decode cX8_init 271 = .ok (.aload_n 0, 1) := by decide +kernel
theorem dX8_init_272 : decode cX8_init 272 = .ok (.bipush 11, 2) := by decide +kernel
theorem dX8_init_274 : decode cX8_init 274 = .ok (.newarray .int, 2) := by decide +kernel
theorem dX8_init_276 : decode cX8_init 276 = .ok (.putfield 107, 3) := by decide +kernel
theorem dX8_init_279 : decode cX8_init 279 = .ok (.aload_n 0, 1) := by decide +kernel
theorem dX8_init_280 : decode cX8_init 280 = .ok (.bipush 11, 2) := by decide +kernel
theorem dX8_init_282 : decode cX8_init 282 = .ok (.newarray .int, 2) := by decide +kernel
theorem dX8_init_284 : decode cX8_init 284 = .ok (.putfield 110, 3) := by decide +kernel
theorem dX8_init_287 : decode cX8_init 287 = .ok (.aload_n 0, 1) := by decide +kernel
theorem dX8_init_288 : decode cX8_init 288 = .ok (.bipush 11, 2) := by decide +kernel
theorem dX8_init_290 : decode cX8_init 290 = .ok (.newarray .int, 2) := by decide +kernel
theorem dX8_init_292 : decode cX8_init 292 = .ok (.putfield 113, 3) := by decide +kernel
theorem dX8_init_295 : decode cX8_init 295 = .ok (.aload_n 0, 1) := by decide +kernel
theorem dX8_init_296 : decode cX8_init 296 = .ok (.bipush 11, 2) := by decide +kernel
theorem dX8_init_298 : decode cX8_init 298 = .ok (.newarray .int, 2) := by decide +kernel
theorem dX8_init_300 : decode cX8_init 300 = .ok (.putfield 116, 3) := by decide +kernel
theorem dX8_init_303 : decode cX8_init 303 = .ok (.aload_n 0, 1) := by decide +kernel
theorem dX8_init_304 : decode cX8_init 304 = .ok (.getfield 44, 3) := by decide +kernel
theorem dX8_init_307 : decode cX8_init 307 = .ok (.iconst 0, 1) := by decide +kernel
theorem dX8_init_308 : decode cX8_init 308 = .ok (.iconst (-1), 1) := by decide +kernel
theorem dX8_init_309 : decode cX8_init 309 = .ok (.iastore, 1) := by decide +kernel
theorem dX8_init_310 : decode cX8_init 310 = .ok (.aload_n 0, 1) := by decide +kernel
theorem dX8_init_311 : decode cX8_init 311 = .ok (.getfield 50, 3) := by decide +kernel
theorem dX8_init_314 : decode cX8_init 314 = .ok (.iconst 0, 1) := by decide +kernel
theorem dX8_init_315 : decode cX8_init 315 = .ok (.iconst (-1), 1) := by decide +kernel
theorem dX8_init_316 : decode cX8_init 316 = .ok (.iastore, 1) := by decide +kernel
theorem dX8_init_317 : decode cX8_init 317 = .ok (.return_, 1) := by decide +kernel
theorem dX8_states_0 : decode cX8_states 0 = .ok (.iconst 1, 1) := by decide +kernel
theorem dX8_states_1 : decode cX8_states 1 = .ok (.istore_n 1, 1) := by decide +kernel
theorem dX8_states_2 : decode cX8_states 2 = .ok (.iconst 0, 1) := by decide +kernel
theorem dX8_states_3 : decode cX8_states 3 = .ok (.istore_n 2, 1) := by decide +kernel
theorem dX8_states_4 : decode cX8_states 4 = .ok (.iload_n 2, 1) := by decide +kernel
theorem dX8_states_5 : decode cX8_states 5 = .ok (.aload_n 0, 1) := by decide +kernel
theorem dX8_states_6 : decode cX8_states 6 = .ok (.getfield 119, 3) := by decide +kernel
theorem dX8_states_9 : decode cX8_states 9 = .ok (.if_icmp .ge 20, 3) := by decide +kernel
theorem dX8_states_12 : decode cX8_states 12 = .ok (.iload_n 1, 1) := by decide +kernel
theorem dX8_states_13 : decode cX8_states 13 = .ok (.aload_n 0, 1) := by decide +kernel
theorem dX8_states_14 : decode cX8_states 14 = .ok (.getfield 17, 3) := by decide +kernel
theorem dX8_states_17 : decode cX8_states 17 = .ok (.iload_n 2, 1) := by decide +kernel
theorem dX8_states_18 : decode cX8_states 18 = .ok (.iaload, 1) := by decide +kernel
theorem dX8_states_19 : decode cX8_states 19 = .ok (.iconst 1, 1) := by decide +kernel
theorem dX8_states_20 : decode cX8_states 20 = .ok (.iadd, 1) := by decide +kernel
theorem dX8_states_21 : decode cX8_states 21 = .ok (.imul, 1) := by decide +kernel
theorem dX8_states_22 : decode cX8_states 22 = .ok (.istore_n 1, 1) := by decide +kernel
theorem dX8_states_23 : decode cX8_states 23 = .ok (.iinc 2 1, 3) := by decide +kernel
theorem dX8_states_26 : decode cX8_states 26 = .ok (.goto (-22), 3) := by decide +kernel
theorem dX8_states_29 : decode cX8_states 29 = .ok (.iload_n 1, 1) := by decide +kernel
theorem dX8_states_30 : decode cX8_states 30 = .ok (.ireturn, 1) := by decide +kernel
theorem dX8_isLake_0 : decode cX8_isLake 0 = .ok (.iload_n 1, 1) := by decide +kernel
theorem dX8_isLake_1 : decode cX8_isLake 1 = .ok (.iconst 0, 1) := by decide +kernel
theorem dX8_isLake_2 : decode cX8_isLake 2 = .ok (.aload_n 0, 1) := by decide +kernel
theorem dX8_isLake_3 : decode cX8_isLake 3 = .ok (.getfield 119, 3) := by decide +kernel
theorem dX8_isLake_6 : decode cX8_isLake 6 = .ok (.iconst 1, 1) := by decide +kernel
theorem dX8_isLake_7 : decode cX8_isLake 7 = .ok (.isub, 1) := by decide +kernel
theorem dX8_isLake_8 : decode cX8_isLake 8 = .ok (.invokestatic 122, 3) := by decide +kernel
theorem dX8_isLake_11 : decode cX8_isLake 11 = .ok (.ireturn, 1) := by decide +kernel
theorem dX8_isNode_0 : decode cX8_isNode 0 = .ok (.iload_n 1, 1) := by decide +kernel
theorem dX8_isNode_1 : decode cX8_isNode 1 = .ok (.iconst 0, 1) := by decide +kernel
theorem dX8_isNode_2 : decode cX8_isNode 2 = .ok (.aload_n 0, 1) := by decide +kernel
theorem dX8_isNode_3 : decode cX8_isNode 3 = .ok (.getfield 41, 3) := by decide +kernel
theorem dX8_isNode_6 : decode cX8_isNode 6 = .ok (.iconst 1, 1) := by decide +kernel
theorem dX8_isNode_7 : decode cX8_isNode 7 = .ok (.isub, 1) := by decide +kernel
theorem dX8_isNode_8 : decode cX8_isNode 8 = .ok (.invokestatic 122, 3) := by decide +kernel
theorem dX8_isNode_11 : decode cX8_isNode 11 = .ok (.ireturn, 1) := by decide +kernel
theorem dX8_isState_0 : decode cX8_isState 0 = .ok (.iload_n 1, 1) := by decide +kernel
theorem dX8_isState_1 : decode cX8_isState 1 = .ok (.iconst 0, 1) := by decide +kernel
theorem dX8_isState_2 : decode cX8_isState 2 = .ok (.aload_n 0, 1) := by decide +kernel
theorem dX8_isState_3 : decode cX8_isState 3 = .ok (.invokevirtual 126, 3) := by decide +kernel
theorem dX8_isState_6 : decode cX8_isState 6 = .ok (.iconst 1, 1) := by decide +kernel
theorem dX8_isState_7 : decode cX8_isState 7 = .ok (.isub, 1) := by decide +kernel
theorem dX8_isState_8 : decode cX8_isState 8 = .ok (.invokestatic 122, 3) := by decide +kernel
theorem dX8_isState_11 : decode cX8_isState 11 = .ok (.ireturn, 1) := by decide +kernel
theorem dX8_forget_0 : decode cX8_forget 0 = .ok (.aload_n 0, 1) := by decide +kernel
theorem dX8_forget_1 : decode cX8_forget 1 = .ok (.iconst 0, 1) := by decide +kernel
theorem dX8_forget_2 : decode cX8_forget 2 = .ok (.putfield 130, 3) := by decide +kernel
theorem dX8_forget_5 : decode cX8_forget 5 = .ok (.return_, 1) := by decide +kernel
theorem dX8_lake_0 : decode cX8_lake 0 = .ok (.iload_n 2, 1) := by decide +kernel
theorem dX8_lake_1 : decode cX8_lake 1 = .ok (.iconst 0, 1) := by decide +kernel
theorem dX8_lake_2 : decode cX8_lake 2 = .ok (.bipush 30, 2) := by decide +kernel
theorem dX8_lake_4 : decode cX8_lake 4 = .ok (.invokestatic 122, 3) := by decide +kernel
theorem dX8_lake_7 : decode cX8_lake 7 = .ok (.ifCond .eq 54, 3) := by decide +kernel
theorem dX8_lake_10 : decode cX8_lake 10 = .ok (.iload_n 1, 1) := by decide +kernel
theorem dX8_lake_11 : decode cX8_lake 11 = .ok (.iconst 0, 1) := by decide +kernel
theorem dX8_lake_12 : decode cX8_lake 12 = .ok (.iload_n 2, 1) := by decide +kernel
theorem dX8_lake_13 : decode cX8_lake 13 = .ok (.invokestatic 122, 3) := by decide +kernel
theorem dX8_lake_16 : decode cX8_lake 16 = .ok (.ifCond .eq 45, 3) := by decide +kernel
theorem dX8_lake_19 : decode cX8_lake 19 = .ok (.iload_n 3, 1) := by decide +kernel
theorem dX8_lake_20 : decode cX8_lake 20 = .ok (.iconst 0, 1) := by decide +kernel
theorem dX8_lake_21 : decode cX8_lake 21 = .ok (.bipush 10, 2) := by decide +kernel
theorem dX8_lake_23 : decode cX8_lake 23 = .ok (.invokestatic 122, 3) := by decide +kernel
theorem dX8_lake_26 : decode cX8_lake 26 = .ok (.ifCond .eq 35, 3) := by decide +kernel
theorem dX8_lake_29 : decode cX8_lake 29 = .ok (.iload 4, 2) := by decide +kernel
theorem dX8_lake_31 : decode cX8_lake 31 = .ok (.iconst 0, 1) := by decide +kernel
theorem dX8_lake_32 : decode cX8_lake 32 = .ok (.iconst 5, 1) := by decide +kernel
theorem dX8_lake_33 : decode cX8_lake 33 = .ok (.invokestatic 122, 3) := by decide +kernel
theorem dX8_lake_36 : decode cX8_lake 36 = .ok (.ifCond .eq 25, 3) := by decide +kernel
theorem dX8_lake_39 : decode cX8_lake 39 = .ok (.aload_n 0, 1) := by decide +kernel
theorem dX8_lake_40 : decode cX8_lake 40 = .ok (.getfield 119, 3) := by decide +kernel
theorem dX8_lake_43 : decode cX8_lake 43 = .ok (.iconst 3, 1) := by decide +kernel
theorem dX8_lake_44 : decode cX8_lake 44 = .ok (.if_icmp .ge 19, 3) := by decide +kernel
theorem dX8_lake_47 : decode cX8_lake 47 = .ok (.aload_n 0, 1) := by decide +kernel
theorem dX8_lake_48 : decode cX8_lake 48 = .ok (.invokevirtual 126, 3) := by decide +kernel
theorem dX8_lake_51 : decode cX8_lake 51 = .ok (.iload_n 2, 1) := by decide +kernel
theorem dX8_lake_52 : decode cX8_lake 52 = .ok (.iconst 1, 1) := by decide +kernel
theorem dX8_lake_53 : decode cX8_lake 53 = .ok (.iadd, 1) := by decide +kernel
theorem dX8_lake_54 : decode cX8_lake 54 = .ok (.imul, 1) := by decide +kernel
theorem dX8_lake_55 : decode cX8_lake 55 = .ok (.sipush 1000, 3) := by decide +kernel
theorem dX8_lake_58 : decode cX8_lake 58 = .ok (.if_icmp .le 5, 3) := by decide +kernel
theorem dX8_lake_61 : decode cX8_lake 61 = .ok (.iconst (-1), 1) := by decide +kernel
theorem dX8_lake_62 : decode cX8_lake 62 = .ok (.ireturn, 1) := by decide +kernel
theorem dX8_lake_63 : decode cX8_lake 63 = .ok (.aload_n 0, 1) := by decide +kernel
theorem dX8_lake_64 : decode cX8_lake 64 = .ok (.getfield 134, 3) := by decide +kernel
theorem dX8_lake_67 : decode cX8_lake 67 = .ok (.ifCond .eq 6, 3) := by decide +kernel
theorem dX8_lake_70 : decode cX8_lake 70 = .ok (.bipush (-2), 2) := by decide +kernel
theorem dX8_lake_72 : decode cX8_lake 72 = .ok (.ireturn, 1) := by decide +kernel
theorem dX8_lake_73 : decode cX8_lake 73 = .ok (.aload_n 0, 1) := by decide +kernel
theorem dX8_lake_74 : decode cX8_lake 74 = .ok (.getfield 119, 3) := by decide +kernel
theorem dX8_lake_77 : decode cX8_lake 77 = .ok (.iconst 3, 1) := by decide +kernel
theorem dX8_lake_78 : decode cX8_lake 78 = .ok (.if_icmp .eq 11, 3) := by decide +kernel
theorem dX8_lake_81 : decode cX8_lake 81 = .ok (.aload_n 0, 1) := by decide +kernel
theorem dX8_lake_82 : decode cX8_lake 82 = .ok (.getfield 41, 3) := by decide +kernel
theorem dX8_lake_85 : decode cX8_lake 85 = .ok (.iconst 1, 1) := by decide +kernel
theorem dX8_lake_86 : decode cX8_lake 86 = .ok (.if_icmp .le 6, 3) := by decide +kernel
theorem dX8_lake_89 : decode cX8_lake 89 = .ok (.bipush (-5), 2) := by decide +kernel
theorem dX8_lake_91 : decode cX8_lake 91 = .ok (.ireturn, 1) := by decide +kernel
theorem dX8_lake_92 : decode cX8_lake 92 = .ok (.aload_n 0, 1) := by decide +kernel
theorem dX8_lake_93 : decode cX8_lake 93 = .ok (.getfield 119, 3) := by decide +kernel
theorem dX8_lake_96 : decode cX8_lake 96 = .ok (.istore 5, 2) := by decide +kernel
theorem dX8_lake_98 : decode cX8_lake 98 = .ok (.aload_n 0, 1) := by decide +kernel
theorem dX8_lake_99 : decode cX8_lake 99 = .ok (.getfield 13, 3) := by decide +kernel
theorem dX8_lake_102 : decode cX8_lake 102 = .ok (.iload 5, 2) := by decide +kernel
theorem dX8_lake_104 : decode cX8_lake 104 = .ok (.iload_n 1, 1) := by decide +kernel
theorem dX8_lake_105 : decode cX8_lake 105 = .ok (.iastore, 1) := by decide +kernel
theorem dX8_lake_106 : decode cX8_lake 106 = .ok (.aload_n 0, 1) := by decide +kernel
theorem dX8_lake_107 : decode cX8_lake 107 = .ok (.getfield 17, 3) := by decide +kernel
theorem dX8_lake_110 : decode cX8_lake 110 = .ok (.iload 5, 2) := by decide +kernel
theorem dX8_lake_112 : decode cX8_lake 112 = .ok (.iload_n 2, 1) := by decide +kernel
theorem dX8_lake_113 : decode cX8_lake 113 = .ok (.iastore, 1) := by decide +kernel
theorem dX8_lake_114 : decode cX8_lake 114 = .ok (.aload_n 0, 1) := by decide +kernel
theorem dX8_lake_115 : decode cX8_lake 115 = .ok (.getfield 20, 3) := by decide +kernel
theorem dX8_lake_118 : decode cX8_lake 118 = .ok (.iload 5, 2) := by decide +kernel
theorem dX8_lake_120 : decode cX8_lake 120 = .ok (.iload_n 3, 1) := by decide +kernel
theorem dX8_lake_121 : decode cX8_lake 121 = .ok (.iastore, 1) := by decide +kernel
theorem dX8_lake_122 : decode cX8_lake 122 = .ok (.aload_n 0, 1) := by decide +kernel
theorem dX8_lake_123 : decode cX8_lake 123 = .ok (.getfield 23, 3) := by decide +kernel
theorem dX8_lake_126 : decode cX8_lake 126 = .ok (.iload 5, 2) := by decide +kernel
theorem dX8_lake_128 : decode cX8_lake 128 = .ok (.iload 4, 2) := by decide +kernel
theorem dX8_lake_130 : decode cX8_lake 130 = .ok (.iastore, 1) := by decide +kernel
theorem dX8_lake_131 : decode cX8_lake 131 = .ok (.iconst 0, 1) := by decide +kernel
theorem dX8_lake_132 : decode cX8_lake 132 = .ok (.istore 6, 2) := by decide +kernel
theorem dX8_lake_134 : decode cX8_lake 134 = .ok (.iload 6, 2) := by decide +kernel
theorem dX8_lake_136 : decode cX8_lake 136 = .ok (.iload_n 2, 1) := by decide +kernel
theorem dX8_lake_137 : decode cX8_lake 137 = .ok (.if_icmp .gt 23, 3) := by decide +kernel
theorem dX8_lake_140 : decode cX8_lake 140 = .ok (.aload_n 0, 1) := by decide +kernel
theorem dX8_lake_141 : decode cX8_lake 141 = .ok (.getfield 26, 3) := by decide +kernel
theorem dX8_lake_144 : decode cX8_lake 144 = .ok (.bipush 31, 2) := by decide +kernel
theorem dX8_lake_146 : decode cX8_lake 146 = .ok (.iload 5, 2) := by decide +kernel
theorem dX8_lake_148 : decode cX8_lake 148 = .ok (.imul, 1) := by decide +kernel
theorem dX8_lake_149 : decode cX8_lake 149 = .ok (.iload 6, 2) := by decide +kernel
theorem dX8_lake_151 : decode cX8_lake 151 = .ok (.iadd, 1) := by decide +kernel
theorem dX8_lake_152 : decode cX8_lake 152 = .ok (.iconst 1, 1) := by decide +kernel
theorem dX8_lake_153 : decode cX8_lake 153 = .ok (.iastore, 1) := by decide +kernel
theorem dX8_lake_154 : decode cX8_lake 154 = .ok (.iinc 6 1, 3) := by decide +kernel
theorem dX8_lake_157 : decode cX8_lake 157 = .ok (.goto (-23), 3) := by decide +kernel
theorem dX8_lake_160 : decode cX8_lake 160 = .ok (.aload_n 0, 1) := by decide +kernel
theorem dX8_lake_161 : decode cX8_lake 161 = .ok (.getfield 29, 3) := by decide +kernel
theorem dX8_lake_164 : decode cX8_lake 164 = .ok (.iload 5, 2) := by decide +kernel
theorem dX8_lake_166 : decode cX8_lake 166 = .ok (.iconst 0, 1) := by decide +kernel
theorem dX8_lake_167 : decode cX8_lake 167 = .ok (.iastore, 1) := by decide +kernel
theorem dX8_lake_168 : decode cX8_lake 168 = .ok (.aload_n 0, 1) := by decide +kernel
theorem dX8_lake_169 : decode cX8_lake 169 = .ok (.getfield 77, 3) := by decide +kernel
theorem dX8_lake_172 : decode cX8_lake 172 = .ok (.iload 5, 2) := by decide +kernel
theorem dX8_lake_174 : decode cX8_lake 174 = .ok (.iconst 0, 1) := by decide +kernel
theorem dX8_lake_175 : decode cX8_lake 175 = .ok (.iastore, 1) := by decide +kernel
theorem dX8_lake_176 : decode cX8_lake 176 = .ok (.aload_n 0, 1) := by decide +kernel
theorem dX8_lake_177 : decode cX8_lake 177 = .ok (.getfield 80, 3) := by decide +kernel
theorem dX8_lake_180 : decode cX8_lake 180 = .ok (.iload 5, 2) := by decide +kernel
theorem dX8_lake_182 : decode cX8_lake 182 = .ok (.bipush 30, 2) := by decide +kernel
theorem dX8_lake_184 : decode cX8_lake 184 = .ok (.iastore, 1) := by decide +kernel
theorem dX8_lake_185 : decode cX8_lake 185 = .ok (.aload_n 0, 1) := by decide +kernel
theorem dX8_lake_186 : decode cX8_lake 186 = .ok (.dup, 1) := by decide +kernel
theorem dX8_lake_187 : decode cX8_lake 187 = .ok (.getfield 119, 3) := by decide +kernel
theorem dX8_lake_190 : decode cX8_lake 190 = .ok (.iconst 1, 1) := by decide +kernel
theorem dX8_lake_191 : decode cX8_lake 191 = .ok (.iadd, 1) := by decide +kernel
theorem dX8_lake_192 : decode cX8_lake 192 = .ok (.putfield 119, 3) := by decide +kernel
theorem dX8_lake_195 : decode cX8_lake 195 = .ok (.aload_n 0, 1) := by decide +kernel
theorem dX8_lake_196 : decode cX8_lake 196 = .ok (.invokevirtual 137, 3) := by decide +kernel
theorem dX8_lake_199 : decode cX8_lake 199 = .ok (.iload 5, 2) := by decide +kernel
theorem dX8_lake_201 : decode cX8_lake 201 = .ok (.ireturn, 1) := by decide +kernel
theorem dX8_head_0 : decode cX8_head 0 = .ok (.aload_n 0, 1) := by decide +kernel
theorem dX8_head_1 : decode cX8_head 1 = .ok (.iload_n 1, 1) := by decide +kernel
theorem dX8_head_2 : decode cX8_head 2 = .ok (.invokevirtual 140, 3) := by decide +kernel
theorem dX8_head_5 : decode cX8_head 5 = .ok (.ifCond .eq 27, 3) := by decide +kernel
theorem dX8_head_8 : decode cX8_head 8 = .ok (.iload_n 2, 1) := by decide +kernel
theorem dX8_head_9 : decode cX8_head 9 = .ok (.iconst 0, 1) := by decide +kernel
theorem dX8_head_10 : decode cX8_head 10 = .ok (.aload_n 0, 1) := by decide +kernel
theorem dX8_head_11 : decode cX8_head 11 = .ok (.getfield 17, 3) := by decide +kernel
theorem dX8_head_14 : decode cX8_head 14 = .ok (.iload_n 1, 1) := by decide +kernel
theorem dX8_head_15 : decode cX8_head 15 = .ok (.iaload, 1) := by decide +kernel
theorem dX8_head_16 : decode cX8_head 16 = .ok (.invokestatic 122, 3) := by decide +kernel
theorem dX8_head_19 : decode cX8_head 19 = .ok (.ifCond .eq 13, 3) := by decide +kernel
theorem dX8_head_22 : decode cX8_head 22 = .ok (.iload_n 3, 1) := by decide +kernel
theorem dX8_head_23 : decode cX8_head 23 = .ok (.iconst 0, 1) := by decide +kernel
theorem dX8_head_24 : decode cX8_head 24 = .ok (.bipush 9, 2) := by decide +kernel
theorem dX8_head_26 : decode cX8_head 26 = .ok (.invokestatic 122, 3) := by decide +kernel
theorem dX8_head_29 : decode cX8_head 29 = .ok (.ifCond .ne 5, 3) := by decide +kernel
theorem dX8_head_32 : decode cX8_head 32 = .ok (.iconst (-1), 1) := by decide +kernel
theorem dX8_head_33 : decode cX8_head 33 = .ok (.ireturn, 1) := by decide +kernel
theorem dX8_head_34 : decode cX8_head 34 = .ok (.iconst 0, 1) := by decide +kernel
theorem dX8_head_35 : decode cX8_head 35 = .ok (.istore 4, 2) := by decide +kernel
theorem dX8_head_37 : decode cX8_head 37 = .ok (.iload 4, 2) := by decide +kernel
theorem dX8_head_39 : decode cX8_head 39 = .ok (.aload_n 0, 1) := by decide +kernel
theorem dX8_head_40 : decode cX8_head 40 = .ok (.getfield 17, 3) := by decide +kernel
theorem dX8_head_43 : decode cX8_head 43 = .ok (.iload_n 1, 1) := by decide +kernel
theorem dX8_head_44 : decode cX8_head 44 = .ok (.iaload, 1) := by decide +kernel
theorem dX8_head_45 : decode cX8_head 45 = .ok (.if_icmp .gt 55, 3) := by decide +kernel
theorem dX8_head_48 : decode cX8_head 48 = .ok (.iload 4, 2) := by decide +kernel
theorem dX8_head_50 : decode cX8_head 50 = .ok (.iload_n 2, 1) := by decide +kernel
theorem dX8_head_51 : decode cX8_head 51 = .ok (.if_icmp .ge 19, 3) := by decide +kernel
theorem dX8_head_54 : decode cX8_head 54 = .ok (.aload_n 0, 1) := by decide +kernel
theorem dX8_head_55 : decode cX8_head 55 = .ok (.getfield 26, 3) := by decide +kernel
theorem dX8_head_58 : decode cX8_head 58 = .ok (.bipush 31, 2) := by decide +kernel
theorem dX8_head_60 : decode cX8_head 60 = .ok (.iload_n 1, 1) := by decide +kernel
theorem dX8_head_61 : decode cX8_head 61 = .ok (.imul, 1) := by decide +kernel
theorem dX8_head_62 : decode cX8_head 62 = .ok (.iload 4, 2) := by decide +kernel
theorem dX8_head_64 : decode cX8_head 64 = .ok (.iadd, 1) := by decide +kernel
theorem dX8_head_65 : decode cX8_head 65 = .ok (.iaload, 1) := by decide +kernel
theorem dX8_head_66 : decode cX8_head 66 = .ok (.iload_n 3, 1) := by decide +kernel
theorem dX8_head_67 : decode cX8_head 67 = .ok (.if_icmp .gt 25, 3) := by decide +kernel
theorem dX8_head_70 : decode cX8_head 70 = .ok (.iload 4, 2) := by decide +kernel
theorem dX8_head_72 : decode cX8_head 72 = .ok (.iload_n 2, 1) := by decide +kernel
theorem dX8_head_73 : decode cX8_head 73 = .ok (.if_icmp .le 21, 3) := by decide +kernel
theorem dX8_head_76 : decode cX8_head 76 = .ok (.aload_n 0, 1) := by decide +kernel
theorem dX8_head_77 : decode cX8_head 77 = .ok (.getfield 26, 3) := by decide +kernel
theorem dX8_head_80 : decode cX8_head 80 = .ok (.bipush 31, 2) := by decide +kernel
theorem dX8_head_82 : decode cX8_head 82 = .ok (.iload_n 1, 1) := by decide +kernel
theorem dX8_head_83 : decode cX8_head 83 = .ok (.imul, 1) := by decide +kernel
theorem dX8_head_84 : decode cX8_head 84 = .ok (.iload 4, 2) := by decide +kernel
theorem dX8_head_86 : decode cX8_head 86 = .ok (.iadd, 1) := by decide +kernel
theorem dX8_head_87 : decode cX8_head 87 = .ok (.iaload, 1) := by decide +kernel
theorem dX8_head_88 : decode cX8_head 88 = .ok (.iload_n 3, 1) := by decide +kernel
theorem dX8_head_89 : decode cX8_head 89 = .ok (.if_icmp .ge 5, 3) := by decide +kernel
theorem dX8_head_92 : decode cX8_head 92 = .ok (.iconst (-1), 1) := by decide +kernel
theorem dX8_head_93 : decode cX8_head 93 = .ok (.ireturn, 1) := by decide +kernel
theorem dX8_head_94 : decode cX8_head 94 = .ok (.iinc 4 1, 3) := by decide +kernel
theorem dX8_head_97 : decode cX8_head 97 = .ok (.goto (-60), 3) := by decide +kernel
theorem dX8_head_100 : decode cX8_head 100 = .ok (.aload_n 0, 1) := by decide +kernel
theorem dX8_head_101 : decode cX8_head 101 = .ok (.getfield 134, 3) := by decide +kernel
theorem dX8_head_104 : decode cX8_head 104 = .ok (.ifCond .eq 6, 3) := by decide +kernel
theorem dX8_head_107 : decode cX8_head 107 = .ok (.bipush (-2), 2) := by decide +kernel
theorem dX8_head_109 : decode cX8_head 109 = .ok (.ireturn, 1) := by decide +kernel
theorem dX8_head_110 : decode cX8_head 110 = .ok (.aload_n 0, 1) := by decide +kernel
theorem dX8_head_111 : decode cX8_head 111 = .ok (.getfield 26, 3) := by decide +kernel
theorem dX8_head_114 : decode cX8_head 114 = .ok (.bipush 31, 2) := by decide +kernel
theorem dX8_head_116 : decode cX8_head 116 = .ok (.iload_n 1, 1) := by decide +kernel
theorem dX8_head_117 : decode cX8_head 117 = .ok (.imul, 1) := by decide +kernel
theorem dX8_head_118 : decode cX8_head 118 = .ok (.iload_n 2, 1) := by decide +kernel
theorem dX8_head_119 : decode cX8_head 119 = .ok (.iadd, 1) := by decide +kernel
theorem dX8_head_120 : decode cX8_head 120 = .ok (.iaload, 1) := by decide +kernel
theorem dX8_head_121 : decode cX8_head 121 = .ok (.istore 4, 2) := by decide +kernel
theorem dX8_head_123 : decode cX8_head 123 = .ok (.aload_n 0, 1) := by decide +kernel
theorem dX8_head_124 : decode cX8_head 124 = .ok (.getfield 26, 3) := by decide +kernel
theorem dX8_head_127 : decode cX8_head 127 = .ok (.bipush 31, 2) := by decide +kernel
theorem dX8_head_129 : decode cX8_head 129 = .ok (.iload_n 1, 1) := by decide +kernel
theorem dX8_head_130 : decode cX8_head 130 = .ok (.imul, 1) := by decide +kernel
theorem dX8_head_131 : decode cX8_head 131 = .ok (.iload_n 2, 1) := by decide +kernel
theorem dX8_head_132 : decode cX8_head 132 = .ok (.iadd, 1) := by decide +kernel
theorem dX8_head_133 : decode cX8_head 133 = .ok (.iload_n 3, 1) := by decide +kernel
theorem dX8_head_134 : decode cX8_head 134 = .ok (.iastore, 1) := by decide +kernel
theorem dX8_head_135 : decode cX8_head 135 = .ok (.aload_n 0, 1) := by decide +kernel
theorem dX8_head_136 : decode cX8_head 136 = .ok (.invokevirtual 137, 3) := by decide +kernel
theorem dX8_head_139 : decode cX8_head 139 = .ok (.iload 4, 2) := by decide +kernel
theorem dX8_head_141 : decode cX8_head 141 = .ok (.ireturn, 1) := by decide +kernel
theorem dX8_end_0 : decode cX8_end 0 = .ok (.aload_n 0, 1) := by decide +kernel
theorem dX8_end_1 : decode cX8_end 1 = .ok (.iload_n 1, 1) := by decide +kernel
theorem dX8_end_2 : decode cX8_end 2 = .ok (.invokevirtual 140, 3) := by decide +kernel
theorem dX8_end_5 : decode cX8_end 5 = .ok (.ifCond .eq 13, 3) := by decide +kernel
theorem dX8_end_8 : decode cX8_end 8 = .ok (.iload_n 2, 1) := by decide +kernel
theorem dX8_end_9 : decode cX8_end 9 = .ok (.iconst 0, 1) := by decide +kernel
theorem dX8_end_10 : decode cX8_end 10 = .ok (.bipush 99, 2) := by decide +kernel
theorem dX8_end_12 : decode cX8_end 12 = .ok (.invokestatic 122, 3) := by decide +kernel
theorem dX8_end_15 : decode cX8_end 15 = .ok (.ifCond .ne 5, 3) := by decide +kernel
theorem dX8_end_18 : decode cX8_end 18 = .ok (.iconst (-1), 1) := by decide +kernel
theorem dX8_end_19 : decode cX8_end 19 = .ok (.ireturn, 1) := by decide +kernel
theorem dX8_end_20 : decode cX8_end 20 = .ok (.aload_n 0, 1) := by decide +kernel
theorem dX8_end_21 : decode cX8_end 21 = .ok (.getfield 134, 3) := by decide +kernel
theorem dX8_end_24 : decode cX8_end 24 = .ok (.ifCond .eq 6, 3) := by decide +kernel
theorem dX8_end_27 : decode cX8_end 27 = .ok (.bipush (-2), 2) := by decide +kernel
theorem dX8_end_29 : decode cX8_end 29 = .ok (.ireturn, 1) := by decide +kernel
theorem dX8_end_30 : decode cX8_end 30 = .ok (.aload_n 0, 1) := by decide +kernel
theorem dX8_end_31 : decode cX8_end 31 = .ok (.getfield 29, 3) := by decide +kernel
theorem dX8_end_34 : decode cX8_end 34 = .ok (.iload_n 1, 1) := by decide +kernel
theorem dX8_end_35 : decode cX8_end 35 = .ok (.iaload, 1) := by decide +kernel
theorem dX8_end_36 : decode cX8_end 36 = .ok (.istore_n 3, 1) := by decide +kernel
theorem dX8_end_37 : decode cX8_end 37 = .ok (.aload_n 0, 1) := by decide +kernel
theorem dX8_end_38 : decode cX8_end 38 = .ok (.getfield 29, 3) := by decide +kernel
theorem dX8_end_41 : decode cX8_end 41 = .ok (.iload_n 1, 1) := by decide +kernel
theorem dX8_end_42 : decode cX8_end 42 = .ok (.iload_n 2, 1) := by decide +kernel
theorem dX8_end_43 : decode cX8_end 43 = .ok (.iastore, 1) := by decide +kernel
theorem dX8_end_44 : decode cX8_end 44 = .ok (.aload_n 0, 1) := by decide +kernel
theorem dX8_end_45 : decode cX8_end 45 = .ok (.invokevirtual 137, 3) := by decide +kernel
theorem dX8_end_48 : decode cX8_end 48 = .ok (.iload_n 3, 1) := by decide +kernel
theorem dX8_end_49 : decode cX8_end 49 = .ok (.ireturn, 1) := by decide +kernel
theorem dX8_weeks_0 : decode cX8_weeks 0 = .ok (.iload_n 1, 1) := by decide +kernel
theorem dX8_weeks_1 : decode cX8_weeks 1 = .ok (.iconst 1, 1) := by decide +kernel
theorem dX8_weeks_2 : decode cX8_weeks 2 = .ok (.bipush 10, 2) := by decide +kernel
theorem dX8_weeks_4 : decode cX8_weeks 4 = .ok (.invokestatic 122, 3) := by decide +kernel
theorem dX8_weeks_7 : decode cX8_weeks 7 = .ok (.ifCond .eq 13, 3) := by decide +kernel
theorem dX8_weeks_10 : decode cX8_weeks 10 = .ok (.iload_n 2, 1) := by decide +kernel
theorem dX8_weeks_11 : decode cX8_weeks 11 = .ok (.iconst 1, 1) := by decide +kernel
theorem dX8_weeks_12 : decode cX8_weeks 12 = .ok (.bipush 6, 2) := by decide +kernel
theorem dX8_weeks_14 : decode cX8_weeks 14 = .ok (.invokestatic 122, 3) := by decide +kernel
theorem dX8_weeks_17 : decode cX8_weeks 17 = .ok (.ifCond .ne 5, 3) := by decide +kernel
theorem dX8_weeks_20 : decode cX8_weeks 20 = .ok (.iconst (-1), 1) := by decide +kernel
theorem dX8_weeks_21 : decode cX8_weeks 21 = .ok (.ireturn, 1) := by decide +kernel
theorem dX8_weeks_22 : decode cX8_weeks 22 = .ok (.aload_n 0, 1) := by decide +kernel
theorem dX8_weeks_23 : decode cX8_weeks 23 = .ok (.getfield 134, 3) := by decide +kernel
theorem dX8_weeks_26 : decode cX8_weeks 26 = .ok (.ifCond .eq 6, 3) := by decide +kernel
theorem dX8_weeks_29 : decode cX8_weeks 29 = .ok (.bipush (-2), 2) := by decide +kernel
theorem dX8_weeks_31 : decode cX8_weeks 31 = .ok (.ireturn, 1) := by decide +kernel
theorem dX8_weeks_32 : decode cX8_weeks 32 = .ok (.aload_n 0, 1) := by decide +kernel
theorem dX8_weeks_33 : decode cX8_weeks 33 = .ok (.iload_n 1, 1) := by decide +kernel
theorem dX8_weeks_34 : decode cX8_weeks 34 = .ok (.putfield 32, 3) := by decide +kernel
theorem dX8_weeks_37 : decode cX8_weeks 37 = .ok (.aload_n 0, 1) := by decide +kernel
theorem dX8_weeks_38 : decode cX8_weeks 38 = .ok (.iload_n 2, 1) := by decide +kernel
theorem dX8_weeks_39 : decode cX8_weeks 39 = .ok (.putfield 35, 3) := by decide +kernel
theorem dX8_weeks_42 : decode cX8_weeks 42 = .ok (.aload_n 0, 1) := by decide +kernel
theorem dX8_weeks_43 : decode cX8_weeks 43 = .ok (.iconst 1, 1) := by decide +kernel
theorem dX8_weeks_44 : decode cX8_weeks 44 = .ok (.putfield 41, 3) := by decide +kernel
theorem dX8_weeks_47 : decode cX8_weeks 47 = .ok (.aload_n 0, 1) := by decide +kernel
theorem dX8_weeks_48 : decode cX8_weeks 48 = .ok (.invokevirtual 137, 3) := by decide +kernel
theorem dX8_weeks_51 : decode cX8_weeks 51 = .ok (.iconst 1, 1) := by decide +kernel
theorem dX8_weeks_52 : decode cX8_weeks 52 = .ok (.ireturn, 1) := by decide +kernel
theorem dX8_price_0 : decode cX8_price 0 = .ok (.iload_n 1, 1) := by decide +kernel
theorem dX8_price_1 : decode cX8_price 1 = .ok (.iconst 0, 1) := by decide +kernel
theorem dX8_price_2 : decode cX8_price 2 = .ok (.bipush 9, 2) := by decide +kernel
theorem dX8_price_4 : decode cX8_price 4 = .ok (.invokestatic 122, 3) := by decide +kernel
theorem dX8_price_7 : decode cX8_price 7 = .ok (.ifCond .eq 13, 3) := by decide +kernel
theorem dX8_price_10 : decode cX8_price 10 = .ok (.iload_n 2, 1) := by decide +kernel
theorem dX8_price_11 : decode cX8_price 11 = .ok (.iconst 0, 1) := by decide +kernel
theorem dX8_price_12 : decode cX8_price 12 = .ok (.bipush 20, 2) := by decide +kernel
theorem dX8_price_14 : decode cX8_price 14 = .ok (.invokestatic 122, 3) := by decide +kernel
theorem dX8_price_17 : decode cX8_price 17 = .ok (.ifCond .ne 5, 3) := by decide +kernel
theorem dX8_price_20 : decode cX8_price 20 = .ok (.iconst (-1), 1) := by decide +kernel
theorem dX8_price_21 : decode cX8_price 21 = .ok (.ireturn, 1) := by decide +kernel
theorem dX8_price_22 : decode cX8_price 22 = .ok (.aload_n 0, 1) := by decide +kernel
theorem dX8_price_23 : decode cX8_price 23 = .ok (.getfield 134, 3) := by decide +kernel
theorem dX8_price_26 : decode cX8_price 26 = .ok (.ifCond .eq 6, 3) := by decide +kernel
theorem dX8_price_29 : decode cX8_price 29 = .ok (.bipush (-2), 2) := by decide +kernel
theorem dX8_price_31 : decode cX8_price 31 = .ok (.ireturn, 1) := by decide +kernel
theorem dX8_price_32 : decode cX8_price 32 = .ok (.aload_n 0, 1) := by decide +kernel
theorem dX8_price_33 : decode cX8_price 33 = .ok (.getfield 38, 3) := by decide +kernel
theorem dX8_price_36 : decode cX8_price 36 = .ok (.iload_n 1, 1) := by decide +kernel
theorem dX8_price_37 : decode cX8_price 37 = .ok (.iaload, 1) := by decide +kernel
theorem dX8_price_38 : decode cX8_price 38 = .ok (.istore_n 3, 1) := by decide +kernel
theorem dX8_price_39 : decode cX8_price 39 = .ok (.aload_n 0, 1) := by decide +kernel
theorem dX8_price_40 : decode cX8_price 40 = .ok (.getfield 38, 3) := by decide +kernel
theorem dX8_price_43 : decode cX8_price 43 = .ok (.iload_n 1, 1) := by decide +kernel
theorem dX8_price_44 : decode cX8_price 44 = .ok (.iload_n 2, 1) := by decide +kernel
theorem dX8_price_45 : decode cX8_price 45 = .ok (.iastore, 1) := by decide +kernel
theorem dX8_price_46 : decode cX8_price 46 = .ok (.aload_n 0, 1) := by decide +kernel
theorem dX8_price_47 : decode cX8_price 47 = .ok (.invokevirtual 137, 3) := by decide +kernel
theorem dX8_price_50 : decode cX8_price 50 = .ok (.iload_n 3, 1) := by decide +kernel
theorem dX8_price_51 : decode cX8_price 51 = .ok (.ireturn, 1) := by decide +kernel
theorem dX8_weightsOf_0 : decode cX8_weightsOf 0 = .ok (.iconst 0, 1) := by decide +kernel
theorem dX8_weightsOf_1 : decode cX8_weightsOf 1 = .ok (.istore_n 2, 1) := by decide +kernel
theorem dX8_weightsOf_2 : decode cX8_weightsOf 2 = .ok (.iconst 1, 1) := by decide +kernel
theorem dX8_weightsOf_3 : decode cX8_weightsOf 3 = .ok (.istore_n 3, 1) := by decide +kernel
theorem dX8_weightsOf_4 : decode cX8_weightsOf 4 = .ok (.iload_n 3, 1) := by decide +kernel
theorem dX8_weightsOf_5 : decode cX8_weightsOf 5 = .ok (.aload_n 0, 1) := by decide +kernel
theorem dX8_weightsOf_6 : decode cX8_weightsOf 6 = .ok (.getfield 41, 3) := by decide +kernel
theorem dX8_weightsOf_9 : decode cX8_weightsOf 9 = .ok (.if_icmp .ge 32, 3) := by decide +kernel
theorem dX8_weightsOf_12 : decode cX8_weightsOf 12 = .ok (.iload_n 2, 1) := by decide +kernel
theorem dX8_weightsOf_13 : decode cX8_weightsOf 13 = .ok (.aload_n 0, 1) := by decide +kernel
theorem dX8_weightsOf_14 : decode cX8_weightsOf 14 = .ok (.getfield 44, 3) := by decide +kernel
theorem dX8_weightsOf_17 : decode cX8_weightsOf 17 = .ok (.iload_n 3, 1) := by decide +kernel
theorem dX8_weightsOf_18 : decode cX8_weightsOf 18 = .ok (.iaload, 1) := by decide +kernel
theorem dX8_weightsOf_19 : decode cX8_weightsOf 19 = .ok (.iload_n 1, 1) := by decide +kernel
theorem dX8_weightsOf_20 : decode cX8_weightsOf 20 = .ok (.if_icmp .ne 12, 3) := by decide +kernel
theorem dX8_weightsOf_23 : decode cX8_weightsOf 23 = .ok (.aload_n 0, 1) := by decide +kernel
theorem dX8_weightsOf_24 : decode cX8_weightsOf 24 = .ok (.getfield 47, 3) := by decide +kernel
theorem dX8_weightsOf_27 : decode cX8_weightsOf 27 = .ok (.iload_n 3, 1) := by decide +kernel
theorem dX8_weightsOf_28 : decode cX8_weightsOf 28 = .ok (.iaload, 1) := by decide +kernel
theorem dX8_weightsOf_29 : decode cX8_weightsOf 29 = .ok (.goto 4, 3) := by decide +kernel
theorem dX8_weightsOf_32 : decode cX8_weightsOf 32 = .ok (.iconst 0, 1) := by decide +kernel
theorem dX8_weightsOf_33 : decode cX8_weightsOf 33 = .ok (.iadd, 1) := by decide +kernel
theorem dX8_weightsOf_34 : decode cX8_weightsOf 34 = .ok (.istore_n 2, 1) := by decide +kernel
theorem dX8_weightsOf_35 : decode cX8_weightsOf 35 = .ok (.iinc 3 1, 3) := by decide +kernel
theorem dX8_weightsOf_38 : decode cX8_weightsOf 38 = .ok (.goto (-34), 3) := by decide +kernel
theorem dX8_weightsOf_41 : decode cX8_weightsOf 41 = .ok (.iload_n 2, 1) := by decide +kernel
theorem dX8_weightsOf_42 : decode cX8_weightsOf 42 = .ok (.ireturn, 1) := by decide +kernel
theorem dX8_node_0 : decode cX8_node 0 = .ok (.iconst 1, 1) := by decide +kernel
theorem dX8_node_1 : decode cX8_node 1 = .ok (.istore 4, 2) := by decide +kernel
theorem dX8_node_3 : decode cX8_node 3 = .ok (.iconst 0, 1) := by decide +kernel
theorem dX8_node_4 : decode cX8_node 4 = .ok (.istore 5, 2) := by decide +kernel
theorem dX8_node_6 : decode cX8_node 6 = .ok (.iload 5, 2) := by decide +kernel
theorem dX8_node_8 : decode cX8_node 8 = .ok (.aload_n 0, 1) := by decide +kernel
theorem dX8_node_9 : decode cX8_node 9 = .ok (.getfield 119, 3) := by decide +kernel
theorem dX8_node_12 : decode cX8_node 12 = .ok (.if_icmp .ge 16, 3) := by decide +kernel
theorem dX8_node_15 : decode cX8_node 15 = .ok (.iload 4, 2) := by decide +kernel
theorem dX8_node_17 : decode cX8_node 17 = .ok (.bipush 10, 2) := by decide +kernel
theorem dX8_node_19 : decode cX8_node 19 = .ok (.imul, 1) := by decide +kernel
theorem dX8_node_20 : decode cX8_node 20 = .ok (.istore 4, 2) := by decide +kernel
theorem dX8_node_22 : decode cX8_node 22 = .ok (.iinc 5 1, 3) := by decide +kernel
theorem dX8_node_25 : decode cX8_node 25 = .ok (.goto (-19), 3) := by decide +kernel
theorem dX8_node_28 : decode cX8_node 28 = .ok (.aload_n 0, 1) := by decide +kernel
theorem dX8_node_29 : decode cX8_node 29 = .ok (.iload_n 1, 1) := by decide +kernel
theorem dX8_node_30 : decode cX8_node 30 = .ok (.invokevirtual 144, 3) := by decide +kernel
theorem dX8_node_33 : decode cX8_node 33 = .ok (.ifCond .eq 56, 3) := by decide +kernel
theorem dX8_node_36 : decode cX8_node 36 = .ok (.aload_n 0, 1) := by decide +kernel
theorem dX8_node_37 : decode cX8_node 37 = .ok (.getfield 50, 3) := by decide +kernel
theorem dX8_node_40 : decode cX8_node 40 = .ok (.iload_n 1, 1) := by decide +kernel
theorem dX8_node_41 : decode cX8_node 41 = .ok (.iaload, 1) := by decide +kernel
theorem dX8_node_42 : decode cX8_node 42 = .ok (.aload_n 0, 1) := by decide +kernel
theorem dX8_node_43 : decode cX8_node 43 = .ok (.getfield 32, 3) := by decide +kernel
theorem dX8_node_46 : decode cX8_node 46 = .ok (.iconst 1, 1) := by decide +kernel
theorem dX8_node_47 : decode cX8_node 47 = .ok (.isub, 1) := by decide +kernel
theorem dX8_node_48 : decode cX8_node 48 = .ok (.if_icmp .eq 41, 3) := by decide +kernel
theorem dX8_node_51 : decode cX8_node 51 = .ok (.iload_n 2, 1) := by decide +kernel
theorem dX8_node_52 : decode cX8_node 52 = .ok (.iconst 1, 1) := by decide +kernel
theorem dX8_node_53 : decode cX8_node 53 = .ok (.aload_n 0, 1) := by decide +kernel
theorem dX8_node_54 : decode cX8_node 54 = .ok (.getfield 35, 3) := by decide +kernel
theorem dX8_node_57 : decode cX8_node 57 = .ok (.invokestatic 122, 3) := by decide +kernel
theorem dX8_node_60 : decode cX8_node 60 = .ok (.ifCond .eq 29, 3) := by decide +kernel
theorem dX8_node_63 : decode cX8_node 63 = .ok (.aload_n 0, 1) := by decide +kernel
theorem dX8_node_64 : decode cX8_node 64 = .ok (.iload_n 1, 1) := by decide +kernel
theorem dX8_node_65 : decode cX8_node 65 = .ok (.invokevirtual 147, 3) := by decide +kernel
theorem dX8_node_68 : decode cX8_node 68 = .ok (.iload_n 2, 1) := by decide +kernel
theorem dX8_node_69 : decode cX8_node 69 = .ok (.iadd, 1) := by decide +kernel
theorem dX8_node_70 : decode cX8_node 70 = .ok (.aload_n 0, 1) := by decide +kernel
theorem dX8_node_71 : decode cX8_node 71 = .ok (.getfield 35, 3) := by decide +kernel
theorem dX8_node_74 : decode cX8_node 74 = .ok (.if_icmp .gt 15, 3) := by decide +kernel
theorem dX8_node_77 : decode cX8_node 77 = .ok (.iload_n 3, 1) := by decide +kernel
theorem dX8_node_78 : decode cX8_node 78 = .ok (.iconst 0, 1) := by decide +kernel
theorem dX8_node_79 : decode cX8_node 79 = .ok (.iload 4, 2) := by decide +kernel
theorem dX8_node_81 : decode cX8_node 81 = .ok (.iconst 1, 1) := by decide +kernel
theorem dX8_node_82 : decode cX8_node 82 = .ok (.isub, 1) := by decide +kernel
theorem dX8_node_83 : decode cX8_node 83 = .ok (.invokestatic 122, 3) := by decide +kernel
theorem dX8_node_86 : decode cX8_node 86 = .ok (.ifCond .ne 5, 3) := by decide +kernel
theorem dX8_node_89 : decode cX8_node 89 = .ok (.iconst (-1), 1) := by decide +kernel
theorem dX8_node_90 : decode cX8_node 90 = .ok (.ireturn, 1) := by decide +kernel
theorem dX8_node_91 : decode cX8_node 91 = .ok (.aload_n 0, 1) := by decide +kernel
theorem dX8_node_92 : decode cX8_node 92 = .ok (.getfield 134, 3) := by decide +kernel
theorem dX8_node_95 : decode cX8_node 95 = .ok (.ifCond .eq 6, 3) := by decide +kernel
theorem dX8_node_98 : decode cX8_node 98 = .ok (.bipush (-2), 2) := by decide +kernel
theorem dX8_node_100 : decode cX8_node 100 = .ok (.ireturn, 1) := by decide +kernel
theorem dX8_node_101 : decode cX8_node 101 = .ok (.aload_n 0, 1) := by decide +kernel
theorem dX8_node_102 : decode cX8_node 102 = .ok (.getfield 41, 3) := by decide +kernel
theorem dX8_node_105 : decode cX8_node 105 = .ok (.bipush 81, 2) := by decide +kernel
theorem dX8_node_107 : decode cX8_node 107 = .ok (.if_icmp .ne 6, 3) := by decide +kernel
theorem dX8_node_110 : decode cX8_node 110 = .ok (.bipush (-5), 2) := by decide +kernel
theorem dX8_node_112 : decode cX8_node 112 = .ok (.ireturn, 1) := by decide +kernel
theorem dX8_node_113 : decode cX8_node 113 = .ok (.aload_n 0, 1) := by decide +kernel
theorem dX8_node_114 : decode cX8_node 114 = .ok (.getfield 41, 3) := by decide +kernel
theorem dX8_node_117 : decode cX8_node 117 = .ok (.istore 5, 2) := by decide +kernel
theorem dX8_node_119 : decode cX8_node 119 = .ok (.aload_n 0, 1) := by decide +kernel
theorem dX8_node_120 : decode cX8_node 120 = .ok (.getfield 44, 3) := by decide +kernel
theorem dX8_node_123 : decode cX8_node 123 = .ok (.iload 5, 2) := by decide +kernel
theorem dX8_node_125 : decode cX8_node 125 = .ok (.iload_n 1, 1) := by decide +kernel
theorem dX8_node_126 : decode cX8_node 126 = .ok (.iastore, 1) := by decide +kernel
theorem dX8_node_127 : decode cX8_node 127 = .ok (.aload_n 0, 1) := by decide +kernel
theorem dX8_node_128 : decode cX8_node 128 = .ok (.getfield 47, 3) := by decide +kernel
theorem dX8_node_131 : decode cX8_node 131 = .ok (.iload 5, 2) := by decide +kernel
theorem dX8_node_133 : decode cX8_node 133 = .ok (.iload_n 2, 1) := by decide +kernel
theorem dX8_node_134 : decode cX8_node 134 = .ok (.iastore, 1) := by decide +kernel
theorem dX8_node_135 : decode cX8_node 135 = .ok (.aload_n 0, 1) := by decide +kernel
theorem dX8_node_136 : decode cX8_node 136 = .ok (.getfield 50, 3) := by decide +kernel
theorem dX8_node_139 : decode cX8_node 139 = .ok (.iload 5, 2) := by decide +kernel
theorem dX8_node_141 : decode cX8_node 141 = .ok (.aload_n 0, 1) := by decide +kernel
theorem dX8_node_142 : decode cX8_node 142 = .ok (.getfield 50, 3) := by decide +kernel
theorem dX8_node_145 : decode cX8_node 145 = .ok (.iload_n 1, 1) := by decide +kernel
theorem dX8_node_146 : decode cX8_node 146 = .ok (.iaload, 1) := by decide +kernel
theorem dX8_node_147 : decode cX8_node 147 = .ok (.iconst 1, 1) := by decide +kernel
theorem dX8_node_148 : decode cX8_node 148 = .ok (.iadd, 1) := by decide +kernel
theorem dX8_node_149 : decode cX8_node 149 = .ok (.iastore, 1) := by decide +kernel
theorem dX8_node_150 : decode cX8_node 150 = .ok (.iload_n 3, 1) := by decide +kernel
theorem dX8_node_151 : decode cX8_node 151 = .ok (.istore 6, 2) := by decide +kernel
theorem dX8_node_153 : decode cX8_node 153 = .ok (.aload_n 0, 1) := by decide +kernel
theorem dX8_node_154 : decode cX8_node 154 = .ok (.getfield 119, 3) := by decide +kernel
theorem dX8_node_157 : decode cX8_node 157 = .ok (.iconst 1, 1) := by decide +kernel
theorem dX8_node_158 : decode cX8_node 158 = .ok (.isub, 1) := by decide +kernel
theorem dX8_node_159 : decode cX8_node 159 = .ok (.istore 7, 2) := by decide +kernel
theorem dX8_node_161 : decode cX8_node 161 = .ok (.iload 7, 2) := by decide +kernel
theorem dX8_node_163 : decode cX8_node 163 = .ok (.ifCond .lt 33, 3) := by decide +kernel
theorem dX8_node_166 : decode cX8_node 166 = .ok (.aload_n 0, 1) := by decide +kernel
theorem dX8_node_167 : decode cX8_node 167 = .ok (.getfield 53, 3) := by decide +kernel
theorem dX8_node_170 : decode cX8_node 170 = .ok (.iconst 3, 1) := by decide +kernel
theorem dX8_node_171 : decode cX8_node 171 = .ok (.iload 5, 2) := by decide +kernel
theorem dX8_node_173 : decode cX8_node 173 = .ok (.imul, 1) := by decide +kernel
theorem dX8_node_174 : decode cX8_node 174 = .ok (.iload 7, 2) := by decide +kernel
theorem dX8_node_176 : decode cX8_node 176 = .ok (.iadd, 1) := by decide +kernel
theorem dX8_node_177 : decode cX8_node 177 = .ok (.iload 6, 2) := by decide +kernel
theorem dX8_node_179 : decode cX8_node 179 = .ok (.bipush 10, 2) := by decide +kernel
theorem dX8_node_181 : decode cX8_node 181 = .ok (.irem, 1) := by decide +kernel
theorem dX8_node_182 : decode cX8_node 182 = .ok (.iastore, 1) := by decide +kernel
theorem dX8_node_183 : decode cX8_node 183 = .ok (.iload 6, 2) := by decide +kernel
theorem dX8_node_185 : decode cX8_node 185 = .ok (.bipush 10, 2) := by decide +kernel
theorem dX8_node_187 : decode cX8_node 187 = .ok (.idiv, 1) := by decide +kernel
theorem dX8_node_188 : decode cX8_node 188 = .ok (.istore 6, 2) := by decide +kernel
theorem dX8_node_190 : decode cX8_node 190 = .ok (.iinc 7 (-1), 3) := by decide +kernel
theorem dX8_node_193 : decode cX8_node 193 = .ok (.goto (-32), 3) := by decide +kernel
theorem dX8_node_196 : decode cX8_node 196 = .ok (.aload_n 0, 1) := by decide +kernel
theorem dX8_node_197 : decode cX8_node 197 = .ok (.dup, 1) := by decide +kernel
theorem dX8_node_198 : decode cX8_node 198 = .ok (.getfield 41, 3) := by decide +kernel
theorem dX8_node_201 : decode cX8_node 201 = .ok (.iconst 1, 1) := by decide +kernel
theorem dX8_node_202 : decode cX8_node 202 = .ok (.iadd, 1) := by decide +kernel
theorem dX8_node_203 : decode cX8_node 203 = .ok (.putfield 41, 3) := by decide +kernel
theorem dX8_node_206 : decode cX8_node 206 = .ok (.aload_n 0, 1) := by decide +kernel
theorem dX8_node_207 : decode cX8_node 207 = .ok (.invokevirtual 137, 3) := by decide +kernel
theorem dX8_node_210 : decode cX8_node 210 = .ok (.iload 5, 2) := by decide +kernel
theorem dX8_node_212 : decode cX8_node 212 = .ok (.ireturn, 1) := by decide +kernel
theorem dX8_about_0 : decode cX8_about 0 = .ok (.aload_n 0, 1) := by decide +kernel
theorem dX8_about_1 : decode cX8_about 1 = .ok (.iload_n 1, 1) := by decide +kernel
theorem dX8_about_2 : decode cX8_about 2 = .ok (.invokevirtual 144, 3) := by decide +kernel
theorem dX8_about_5 : decode cX8_about 5 = .ok (.ifCond .eq 28, 3) := by decide +kernel
theorem dX8_about_8 : decode cX8_about 8 = .ok (.iload_n 2, 1) := by decide +kernel
theorem dX8_about_9 : decode cX8_about 9 = .ok (.iconst 0, 1) := by decide +kernel
theorem dX8_about_10 : decode cX8_about 10 = .ok (.bipush 7, 2) := by decide +kernel
theorem dX8_about_12 : decode cX8_about 12 = .ok (.invokestatic 122, 3) := by decide +kernel
theorem dX8_about_15 : decode cX8_about 15 = .ok (.ifCond .eq 18, 3) := by decide +kernel
theorem dX8_about_18 : decode cX8_about 18 = .ok (.iload_n 2, 1) := by decide +kernel
theorem dX8_about_19 : decode cX8_about 19 = .ok (.iconst 4, 1) := by decide +kernel
theorem dX8_about_20 : decode cX8_about 20 = .ok (.if_icmp .le 16, 3) := by decide +kernel
theorem dX8_about_23 : decode cX8_about 23 = .ok (.aload_n 0, 1) := by decide +kernel
theorem dX8_about_24 : decode cX8_about 24 = .ok (.iload_n 2, 1) := by decide +kernel
theorem dX8_about_25 : decode cX8_about 25 = .ok (.iconst 5, 1) := by decide +kernel
theorem dX8_about_26 : decode cX8_about 26 = .ok (.isub, 1) := by decide +kernel
theorem dX8_about_27 : decode cX8_about 27 = .ok (.invokevirtual 140, 3) := by decide +kernel
theorem dX8_about_30 : decode cX8_about 30 = .ok (.ifCond .ne 6, 3) := by decide +kernel
theorem dX8_about_33 : decode cX8_about 33 = .ok (.bipush (-2), 2) := by decide +kernel
theorem dX8_about_35 : decode cX8_about 35 = .ok (.ireturn, 1) := by decide +kernel
theorem dX8_about_36 : decode cX8_about 36 = .ok (.iconst 0, 1) := by decide +kernel
theorem dX8_about_37 : decode cX8_about 37 = .ok (.istore_n 3, 1) := by decide +kernel
theorem dX8_about_38 : decode cX8_about 38 = .ok (.iload_n 2, 1) := by decide +kernel
theorem dX8_about_39 : decode cX8_about 39 = .ok (.tableswitch 110 0 4 #[33, 40, 58, 65, 104], 33) := by decide +kernel
theorem dX8_about_72 : decode cX8_about 72 = .ok (.aload_n 0, 1) := by decide +kernel
theorem dX8_about_73 : decode cX8_about 73 = .ok (.getfield 44, 3) := by decide +kernel
theorem dX8_about_76 : decode cX8_about 76 = .ok (.iload_n 1, 1) := by decide +kernel
theorem dX8_about_77 : decode cX8_about 77 = .ok (.iaload, 1) := by decide +kernel
theorem dX8_about_78 : decode cX8_about 78 = .ok (.ireturn, 1) := by decide +kernel
theorem dX8_about_79 : decode cX8_about 79 = .ok (.iload_n 1, 1) := by decide +kernel
theorem dX8_about_80 : decode cX8_about 80 = .ok (.ifCond .ne 10, 3) := by decide +kernel
theorem dX8_about_83 : decode cX8_about 83 = .ok (.aload_n 0, 1) := by decide +kernel
theorem dX8_about_84 : decode cX8_about 84 = .ok (.getfield 35, 3) := by decide +kernel
theorem dX8_about_87 : decode cX8_about 87 = .ok (.goto 9, 3) := by decide +kernel
theorem dX8_about_90 : decode cX8_about 90 = .ok (.aload_n 0, 1) := by decide +kernel
theorem dX8_about_91 : decode cX8_about 91 = .ok (.getfield 47, 3) := by decide +kernel
theorem dX8_about_94 : decode cX8_about 94 = .ok (.iload_n 1, 1) := by decide +kernel
theorem dX8_about_95 : decode cX8_about 95 = .ok (.iaload, 1) := by decide +kernel
theorem dX8_about_96 : decode cX8_about 96 = .ok (.ireturn, 1) := by decide +kernel
theorem dX8_about_97 : decode cX8_about 97 = .ok (.aload_n 0, 1) := by decide +kernel
theorem dX8_about_98 : decode cX8_about 98 = .ok (.getfield 50, 3) := by decide +kernel
theorem dX8_about_101 : decode cX8_about 101 = .ok (.iload_n 1, 1) := by decide +kernel
theorem dX8_about_102 : decode cX8_about 102 = .ok (.iaload, 1) := by decide +kernel
theorem dX8_about_103 : decode cX8_about 103 = .ok (.ireturn, 1) := by decide +kernel
theorem dX8_about_104 : decode cX8_about 104 = .ok (.iconst 1, 1) := by decide +kernel
theorem dX8_about_105 : decode cX8_about 105 = .ok (.istore 4, 2) := by decide +kernel
theorem dX8_about_107 : decode cX8_about 107 = .ok (.iload 4, 2) := by decide +kernel
theorem dX8_about_109 : decode cX8_about 109 = .ok (.aload_n 0, 1) := by decide +kernel
theorem dX8_about_110 : decode cX8_about 110 = .ok (.getfield 41, 3) := by decide +kernel
theorem dX8_about_113 : decode cX8_about 113 = .ok (.if_icmp .ge 28, 3) := by decide +kernel
theorem dX8_about_116 : decode cX8_about 116 = .ok (.iload_n 3, 1) := by decide +kernel
end
section
theorem dX8_about_117 : decode cX8_about 117 = .ok (.aload_n 0, 1) := by decide +kernel
theorem dX8_about_118 : decode cX8_about 118 = .ok (.getfield 44, 3) := by decide +kernel
theorem dX8_about_121 : decode cX8_about 121 = .ok (.iload 4, 2) := by decide +kernel
theorem dX8_about_123 : decode cX8_about 123 = .ok (.iaload, 1) := by decide +kernel
theorem dX8_about_124 : decode cX8_about 124 = .ok (.iload_n 1, 1) := by decide +kernel
theorem dX8_about_125 : decode cX8_about 125 = .ok (.if_icmp .ne 7, 3) := by decide +kernel
theorem dX8_about_128 : decode cX8_about 128 = .ok (.iconst 1, 1) := by decide +kernel
theorem dX8_about_129 : decode cX8_about 129 = .ok (.goto 4, 3) := by decide +kernel
theorem dX8_about_132 : decode cX8_about 132 = .ok (.iconst 0, 1) := by decide +kernel
theorem dX8_about_133 : decode cX8_about 133 = .ok (.iadd, 1) := by decide +kernel
theorem dX8_about_134 : decode cX8_about 134 = .ok (.istore_n 3, 1) := by decide +kernel
theorem dX8_about_135 : decode cX8_about 135 = .ok (.iinc 4 1, 3) := by decide +kernel
theorem dX8_about_138 : decode cX8_about 138 = .ok (.goto (-31), 3) := by decide +kernel
theorem dX8_about_141 : decode cX8_about 141 = .ok (.iload_n 3, 1) := by decide +kernel
theorem dX8_about_142 : decode cX8_about 142 = .ok (.ireturn, 1) := by decide +kernel
theorem dX8_about_143 : decode cX8_about 143 = .ok (.aload_n 0, 1) := by decide +kernel
theorem dX8_about_144 : decode cX8_about 144 = .ok (.iload_n 1, 1) := by decide +kernel
theorem dX8_about_145 : decode cX8_about 145 = .ok (.invokevirtual 147, 3) := by decide +kernel
theorem dX8_about_148 : decode cX8_about 148 = .ok (.ireturn, 1) := by decide +kernel
theorem dX8_about_149 : decode cX8_about 149 = .ok (.iload_n 1, 1) := by decide +kernel
theorem dX8_about_150 : decode cX8_about 150 = .ok (.ifCond .ne 7, 3) := by decide +kernel
theorem dX8_about_153 : decode cX8_about 153 = .ok (.iconst 0, 1) := by decide +kernel
theorem dX8_about_154 : decode cX8_about 154 = .ok (.goto 15, 3) := by decide +kernel
theorem dX8_about_157 : decode cX8_about 157 = .ok (.aload_n 0, 1) := by decide +kernel
theorem dX8_about_158 : decode cX8_about 158 = .ok (.getfield 53, 3) := by decide +kernel
theorem dX8_about_161 : decode cX8_about 161 = .ok (.iconst 3, 1) := by decide +kernel
theorem dX8_about_162 : decode cX8_about 162 = .ok (.iload_n 1, 1) := by decide +kernel
theorem dX8_about_163 : decode cX8_about 163 = .ok (.imul, 1) := by decide +kernel
theorem dX8_about_164 : decode cX8_about 164 = .ok (.iload_n 2, 1) := by decide +kernel
theorem dX8_about_165 : decode cX8_about 165 = .ok (.iadd, 1) := by decide +kernel
theorem dX8_about_166 : decode cX8_about 166 = .ok (.iconst 5, 1) := by decide +kernel
theorem dX8_about_167 : decode cX8_about 167 = .ok (.isub, 1) := by decide +kernel
theorem dX8_about_168 : decode cX8_about 168 = .ok (.iaload, 1) := by decide +kernel
theorem dX8_about_169 : decode cX8_about 169 = .ok (.ireturn, 1) := by decide +kernel
theorem dX8_isWhole_0 : decode cX8_isWhole 0 = .ok (.iconst 0, 1) := by decide +kernel
theorem dX8_isWhole_1 : decode cX8_isWhole 1 = .ok (.istore_n 1, 1) := by decide +kernel
theorem dX8_isWhole_2 : decode cX8_isWhole 2 = .ok (.iload_n 1, 1) := by decide +kernel
theorem dX8_isWhole_3 : decode cX8_isWhole 3 = .ok (.aload_n 0, 1) := by decide +kernel
theorem dX8_isWhole_4 : decode cX8_isWhole 4 = .ok (.getfield 41, 3) := by decide +kernel
theorem dX8_isWhole_7 : decode cX8_isWhole 7 = .ok (.if_icmp .ge 38, 3) := by decide +kernel
theorem dX8_isWhole_10 : decode cX8_isWhole 10 = .ok (.aload_n 0, 1) := by decide +kernel
theorem dX8_isWhole_11 : decode cX8_isWhole 11 = .ok (.getfield 50, 3) := by decide +kernel
theorem dX8_isWhole_14 : decode cX8_isWhole 14 = .ok (.iload_n 1, 1) := by decide +kernel
theorem dX8_isWhole_15 : decode cX8_isWhole 15 = .ok (.iaload, 1) := by decide +kernel
theorem dX8_isWhole_16 : decode cX8_isWhole 16 = .ok (.aload_n 0, 1) := by decide +kernel
theorem dX8_isWhole_17 : decode cX8_isWhole 17 = .ok (.getfield 32, 3) := by decide +kernel
theorem dX8_isWhole_20 : decode cX8_isWhole 20 = .ok (.iconst 1, 1) := by decide +kernel
theorem dX8_isWhole_21 : decode cX8_isWhole 21 = .ok (.isub, 1) := by decide +kernel
theorem dX8_isWhole_22 : decode cX8_isWhole 22 = .ok (.if_icmp .ge 17, 3) := by decide +kernel
theorem dX8_isWhole_25 : decode cX8_isWhole 25 = .ok (.aload_n 0, 1) := by decide +kernel
theorem dX8_isWhole_26 : decode cX8_isWhole 26 = .ok (.iload_n 1, 1) := by decide +kernel
theorem dX8_isWhole_27 : decode cX8_isWhole 27 = .ok (.invokevirtual 147, 3) := by decide +kernel
theorem dX8_isWhole_30 : decode cX8_isWhole 30 = .ok (.aload_n 0, 1) := by decide +kernel
theorem dX8_isWhole_31 : decode cX8_isWhole 31 = .ok (.getfield 35, 3) := by decide +kernel
theorem dX8_isWhole_34 : decode cX8_isWhole 34 = .ok (.if_icmp .eq 5, 3) := by decide +kernel
theorem dX8_isWhole_37 : decode cX8_isWhole 37 = .ok (.iconst 0, 1) := by decide +kernel
theorem dX8_isWhole_38 : decode cX8_isWhole 38 = .ok (.ireturn, 1) := by decide +kernel
theorem dX8_isWhole_39 : decode cX8_isWhole 39 = .ok (.iinc 1 1, 3) := by decide +kernel
theorem dX8_isWhole_42 : decode cX8_isWhole 42 = .ok (.goto (-40), 3) := by decide +kernel
theorem dX8_isWhole_45 : decode cX8_isWhole 45 = .ok (.aload_n 0, 1) := by decide +kernel
theorem dX8_isWhole_46 : decode cX8_isWhole 46 = .ok (.getfield 119, 3) := by decide +kernel
theorem dX8_isWhole_49 : decode cX8_isWhole 49 = .ok (.ifCond .le 7, 3) := by decide +kernel
theorem dX8_isWhole_52 : decode cX8_isWhole 52 = .ok (.iconst 1, 1) := by decide +kernel
theorem dX8_isWhole_53 : decode cX8_isWhole 53 = .ok (.goto 4, 3) := by decide +kernel
theorem dX8_isWhole_56 : decode cX8_isWhole 56 = .ok (.iconst 0, 1) := by decide +kernel
theorem dX8_isWhole_57 : decode cX8_isWhole 57 = .ok (.ireturn, 1) := by decide +kernel
theorem dX8_count_0 : decode cX8_count 0 = .ok (.iload_n 1, 1) := by decide +kernel
theorem dX8_count_1 : decode cX8_count 1 = .ok (.tableswitch 94 0 6 #[43, 48, 53, 58, 71, 76, 81], 43) := by decide +kernel
theorem dX8_count_44 : decode cX8_count 44 = .ok (.aload_n 0, 1) := by decide +kernel
theorem dX8_count_45 : decode cX8_count 45 = .ok (.getfield 119, 3) := by decide +kernel
theorem dX8_count_48 : decode cX8_count 48 = .ok (.ireturn, 1) := by decide +kernel
theorem dX8_count_49 : decode cX8_count 49 = .ok (.aload_n 0, 1) := by decide +kernel
theorem dX8_count_50 : decode cX8_count 50 = .ok (.getfield 41, 3) := by decide +kernel
theorem dX8_count_53 : decode cX8_count 53 = .ok (.ireturn, 1) := by decide +kernel
theorem dX8_count_54 : decode cX8_count 54 = .ok (.aload_n 0, 1) := by decide +kernel
theorem dX8_count_55 : decode cX8_count 55 = .ok (.invokevirtual 126, 3) := by decide +kernel
theorem dX8_count_58 : decode cX8_count 58 = .ok (.ireturn, 1) := by decide +kernel
theorem dX8_count_59 : decode cX8_count 59 = .ok (.aload_n 0, 1) := by decide +kernel
theorem dX8_count_60 : decode cX8_count 60 = .ok (.getfield 134, 3) := by decide +kernel
theorem dX8_count_63 : decode cX8_count 63 = .ok (.ifCond .eq 7, 3) := by decide +kernel
theorem dX8_count_66 : decode cX8_count 66 = .ok (.iconst 1, 1) := by decide +kernel
theorem dX8_count_67 : decode cX8_count 67 = .ok (.goto 4, 3) := by decide +kernel
theorem dX8_count_70 : decode cX8_count 70 = .ok (.iconst 0, 1) := by decide +kernel
theorem dX8_count_71 : decode cX8_count 71 = .ok (.ireturn, 1) := by decide +kernel
theorem dX8_count_72 : decode cX8_count 72 = .ok (.aload_n 0, 1) := by decide +kernel
theorem dX8_count_73 : decode cX8_count 73 = .ok (.getfield 32, 3) := by decide +kernel
theorem dX8_count_76 : decode cX8_count 76 = .ok (.ireturn, 1) := by decide +kernel
theorem dX8_count_77 : decode cX8_count 77 = .ok (.aload_n 0, 1) := by decide +kernel
theorem dX8_count_78 : decode cX8_count 78 = .ok (.getfield 35, 3) := by decide +kernel
theorem dX8_count_81 : decode cX8_count 81 = .ok (.ireturn, 1) := by decide +kernel
theorem dX8_count_82 : decode cX8_count 82 = .ok (.aload_n 0, 1) := by decide +kernel
theorem dX8_count_83 : decode cX8_count 83 = .ok (.invokevirtual 151, 3) := by decide +kernel
theorem dX8_count_86 : decode cX8_count 86 = .ok (.ifCond .eq 7, 3) := by decide +kernel
theorem dX8_count_89 : decode cX8_count 89 = .ok (.iconst 1, 1) := by decide +kernel
theorem dX8_count_90 : decode cX8_count 90 = .ok (.goto 4, 3) := by decide +kernel
theorem dX8_count_93 : decode cX8_count 93 = .ok (.iconst 0, 1) := by decide +kernel
theorem dX8_count_94 : decode cX8_count 94 = .ok (.ireturn, 1) := by decide +kernel
theorem dX8_count_95 : decode cX8_count 95 = .ok (.iconst (-1), 1) := by decide +kernel
theorem dX8_count_96 : decode cX8_count 96 = .ok (.ireturn, 1) := by decide +kernel
theorem dX8_unfold_0 : decode cX8_unfold 0 = .ok (.iload_n 1, 1) := by decide +kernel
theorem dX8_unfold_1 : decode cX8_unfold 1 = .ok (.istore_n 2, 1) := by decide +kernel
theorem dX8_unfold_2 : decode cX8_unfold 2 = .ok (.aload_n 0, 1) := by decide +kernel
theorem dX8_unfold_3 : decode cX8_unfold 3 = .ok (.getfield 119, 3) := by decide +kernel
theorem dX8_unfold_6 : decode cX8_unfold 6 = .ok (.iconst 1, 1) := by decide +kernel
theorem dX8_unfold_7 : decode cX8_unfold 7 = .ok (.isub, 1) := by decide +kernel
theorem dX8_unfold_8 : decode cX8_unfold 8 = .ok (.istore_n 3, 1) := by decide +kernel
theorem dX8_unfold_9 : decode cX8_unfold 9 = .ok (.iload_n 3, 1) := by decide +kernel
theorem dX8_unfold_10 : decode cX8_unfold 10 = .ok (.ifCond .lt 36, 3) := by decide +kernel
theorem dX8_unfold_13 : decode cX8_unfold 13 = .ok (.aload_n 0, 1) := by decide +kernel
theorem dX8_unfold_14 : decode cX8_unfold 14 = .ok (.getfield 56, 3) := by decide +kernel
theorem dX8_unfold_17 : decode cX8_unfold 17 = .ok (.iload_n 3, 1) := by decide +kernel
theorem dX8_unfold_18 : decode cX8_unfold 18 = .ok (.iload_n 2, 1) := by decide +kernel
theorem dX8_unfold_19 : decode cX8_unfold 19 = .ok (.aload_n 0, 1) := by decide +kernel
theorem dX8_unfold_20 : decode cX8_unfold 20 = .ok (.getfield 17, 3) := by decide +kernel
theorem dX8_unfold_23 : decode cX8_unfold 23 = .ok (.iload_n 3, 1) := by decide +kernel
theorem dX8_unfold_24 : decode cX8_unfold 24 = .ok (.iaload, 1) := by decide +kernel
theorem dX8_unfold_25 : decode cX8_unfold 25 = .ok (.iconst 1, 1) := by decide +kernel
theorem dX8_unfold_26 : decode cX8_unfold 26 = .ok (.iadd, 1) := by decide +kernel
theorem dX8_unfold_27 : decode cX8_unfold 27 = .ok (.irem, 1) := by decide +kernel
theorem dX8_unfold_28 : decode cX8_unfold 28 = .ok (.iastore, 1) := by decide +kernel
theorem dX8_unfold_29 : decode cX8_unfold 29 = .ok (.iload_n 2, 1) := by decide +kernel
theorem dX8_unfold_30 : decode cX8_unfold 30 = .ok (.aload_n 0, 1) := by decide +kernel
theorem dX8_unfold_31 : decode cX8_unfold 31 = .ok (.getfield 17, 3) := by decide +kernel
theorem dX8_unfold_34 : decode cX8_unfold 34 = .ok (.iload_n 3, 1) := by decide +kernel
theorem dX8_unfold_35 : decode cX8_unfold 35 = .ok (.iaload, 1) := by decide +kernel
theorem dX8_unfold_36 : decode cX8_unfold 36 = .ok (.iconst 1, 1) := by decide +kernel
theorem dX8_unfold_37 : decode cX8_unfold 37 = .ok (.iadd, 1) := by decide +kernel
theorem dX8_unfold_38 : decode cX8_unfold 38 = .ok (.idiv, 1) := by decide +kernel
theorem dX8_unfold_39 : decode cX8_unfold 39 = .ok (.istore_n 2, 1) := by decide +kernel
theorem dX8_unfold_40 : decode cX8_unfold 40 = .ok (.iinc 3 (-1), 3) := by decide +kernel
theorem dX8_unfold_43 : decode cX8_unfold 43 = .ok (.goto (-34), 3) := by decide +kernel
theorem dX8_unfold_46 : decode cX8_unfold 46 = .ok (.return_, 1) := by decide +kernel
theorem dX8_lowest_0 : decode cX8_lowest 0 = .ok (.aload_n 0, 1) := by decide +kernel
theorem dX8_lowest_1 : decode cX8_lowest 1 = .ok (.getfield 23, 3) := by decide +kernel
theorem dX8_lowest_4 : decode cX8_lowest 4 = .ok (.iload_n 1, 1) := by decide +kernel
theorem dX8_lowest_5 : decode cX8_lowest 5 = .ok (.iaload, 1) := by decide +kernel
theorem dX8_lowest_6 : decode cX8_lowest 6 = .ok (.aload_n 0, 1) := by decide +kernel
theorem dX8_lowest_7 : decode cX8_lowest 7 = .ok (.getfield 56, 3) := by decide +kernel
theorem dX8_lowest_10 : decode cX8_lowest 10 = .ok (.iload_n 1, 1) := by decide +kernel
theorem dX8_lowest_11 : decode cX8_lowest 11 = .ok (.iaload, 1) := by decide +kernel
theorem dX8_lowest_12 : decode cX8_lowest 12 = .ok (.if_icmp .ge 12, 3) := by decide +kernel
theorem dX8_lowest_15 : decode cX8_lowest 15 = .ok (.aload_n 0, 1) := by decide +kernel
theorem dX8_lowest_16 : decode cX8_lowest 16 = .ok (.getfield 23, 3) := by decide +kernel
theorem dX8_lowest_19 : decode cX8_lowest 19 = .ok (.iload_n 1, 1) := by decide +kernel
theorem dX8_lowest_20 : decode cX8_lowest 20 = .ok (.iaload, 1) := by decide +kernel
theorem dX8_lowest_21 : decode cX8_lowest 21 = .ok (.goto 9, 3) := by decide +kernel
theorem dX8_lowest_24 : decode cX8_lowest 24 = .ok (.aload_n 0, 1) := by decide +kernel
theorem dX8_lowest_25 : decode cX8_lowest 25 = .ok (.getfield 56, 3) := by decide +kernel
theorem dX8_lowest_28 : decode cX8_lowest 28 = .ok (.iload_n 1, 1) := by decide +kernel
theorem dX8_lowest_29 : decode cX8_lowest 29 = .ok (.iaload, 1) := by decide +kernel
theorem dX8_lowest_30 : decode cX8_lowest 30 = .ok (.ireturn, 1) := by decide +kernel
theorem dX8_highest_0 : decode cX8_highest 0 = .ok (.aload_n 0, 1) := by decide +kernel
theorem dX8_highest_1 : decode cX8_highest 1 = .ok (.getfield 56, 3) := by decide +kernel
theorem dX8_highest_4 : decode cX8_highest 4 = .ok (.iload_n 1, 1) := by decide +kernel
theorem dX8_highest_5 : decode cX8_highest 5 = .ok (.iaload, 1) := by decide +kernel
theorem dX8_highest_6 : decode cX8_highest 6 = .ok (.aload_n 0, 1) := by decide +kernel
theorem dX8_highest_7 : decode cX8_highest 7 = .ok (.getfield 13, 3) := by decide +kernel
theorem dX8_highest_10 : decode cX8_highest 10 = .ok (.iload_n 1, 1) := by decide +kernel
theorem dX8_highest_11 : decode cX8_highest 11 = .ok (.iaload, 1) := by decide +kernel
theorem dX8_highest_12 : decode cX8_highest 12 = .ok (.isub, 1) := by decide +kernel
theorem dX8_highest_13 : decode cX8_highest 13 = .ok (.istore_n 2, 1) := by decide +kernel
theorem dX8_highest_14 : decode cX8_highest 14 = .ok (.iload_n 2, 1) := by decide +kernel
theorem dX8_highest_15 : decode cX8_highest 15 = .ok (.ifCond .ge 7, 3) := by decide +kernel
theorem dX8_highest_18 : decode cX8_highest 18 = .ok (.iconst 0, 1) := by decide +kernel
theorem dX8_highest_19 : decode cX8_highest 19 = .ok (.goto 23, 3) := by decide +kernel
theorem dX8_highest_22 : decode cX8_highest 22 = .ok (.iload_n 2, 1) := by decide +kernel
theorem dX8_highest_23 : decode cX8_highest 23 = .ok (.aload_n 0, 1) := by decide +kernel
theorem dX8_highest_24 : decode cX8_highest 24 = .ok (.getfield 20, 3) := by decide +kernel
theorem dX8_highest_27 : decode cX8_highest 27 = .ok (.iload_n 1, 1) := by decide +kernel
theorem dX8_highest_28 : decode cX8_highest 28 = .ok (.iaload, 1) := by decide +kernel
theorem dX8_highest_29 : decode cX8_highest 29 = .ok (.if_icmp .ge 7, 3) := by decide +kernel
theorem dX8_highest_32 : decode cX8_highest 32 = .ok (.iload_n 2, 1) := by decide +kernel
theorem dX8_highest_33 : decode cX8_highest 33 = .ok (.goto 9, 3) := by decide +kernel
theorem dX8_highest_36 : decode cX8_highest 36 = .ok (.aload_n 0, 1) := by decide +kernel
theorem dX8_highest_37 : decode cX8_highest 37 = .ok (.getfield 20, 3) := by decide +kernel
theorem dX8_highest_40 : decode cX8_highest 40 = .ok (.iload_n 1, 1) := by decide +kernel
theorem dX8_highest_41 : decode cX8_highest 41 = .ok (.iaload, 1) := by decide +kernel
theorem dX8_highest_42 : decode cX8_highest 42 = .ok (.istore_n 3, 1) := by decide +kernel
theorem dX8_highest_43 : decode cX8_highest 43 = .ok (.iload_n 3, 1) := by decide +kernel
theorem dX8_highest_44 : decode cX8_highest 44 = .ok (.aload_n 0, 1) := by decide +kernel
theorem dX8_highest_45 : decode cX8_highest 45 = .ok (.iload_n 1, 1) := by decide +kernel
theorem dX8_highest_46 : decode cX8_highest 46 = .ok (.invokevirtual 155, 3) := by decide +kernel
theorem dX8_highest_49 : decode cX8_highest 49 = .ok (.if_icmp .ge 11, 3) := by decide +kernel
theorem dX8_highest_52 : decode cX8_highest 52 = .ok (.aload_n 0, 1) := by decide +kernel
theorem dX8_highest_53 : decode cX8_highest 53 = .ok (.iload_n 1, 1) := by decide +kernel
theorem dX8_highest_54 : decode cX8_highest 54 = .ok (.invokevirtual 155, 3) := by decide +kernel
theorem dX8_highest_57 : decode cX8_highest 57 = .ok (.goto 4, 3) := by decide +kernel
theorem dX8_highest_60 : decode cX8_highest 60 = .ok (.iload_n 3, 1) := by decide +kernel
theorem dX8_highest_61 : decode cX8_highest 61 = .ok (.ireturn, 1) := by decide +kernel
theorem dX8_earns_0 : decode cX8_earns 0 = .ok (.iconst 0, 1) := by decide +kernel
theorem dX8_earns_1 : decode cX8_earns 1 = .ok (.istore_n 2, 1) := by decide +kernel
theorem dX8_earns_2 : decode cX8_earns 2 = .ok (.iconst 0, 1) := by decide +kernel
theorem dX8_earns_3 : decode cX8_earns 3 = .ok (.istore_n 3, 1) := by decide +kernel
theorem dX8_earns_4 : decode cX8_earns 4 = .ok (.iload_n 3, 1) := by decide +kernel
theorem dX8_earns_5 : decode cX8_earns 5 = .ok (.aload_n 0, 1) := by decide +kernel
theorem dX8_earns_6 : decode cX8_earns 6 = .ok (.getfield 119, 3) := by decide +kernel
theorem dX8_earns_9 : decode cX8_earns 9 = .ok (.if_icmp .ge 42, 3) := by decide +kernel
theorem dX8_earns_12 : decode cX8_earns 12 = .ok (.iload_n 2, 1) := by decide +kernel
theorem dX8_earns_13 : decode cX8_earns 13 = .ok (.aload_n 0, 1) := by decide +kernel
theorem dX8_earns_14 : decode cX8_earns 14 = .ok (.getfield 38, 3) := by decide +kernel
theorem dX8_earns_17 : decode cX8_earns 17 = .ok (.iload_n 1, 1) := by decide +kernel
theorem dX8_earns_18 : decode cX8_earns 18 = .ok (.iaload, 1) := by decide +kernel
theorem dX8_earns_19 : decode cX8_earns 19 = .ok (.aload_n 0, 1) := by decide +kernel
theorem dX8_earns_20 : decode cX8_earns 20 = .ok (.getfield 26, 3) := by decide +kernel
theorem dX8_earns_23 : decode cX8_earns 23 = .ok (.bipush 31, 2) := by decide +kernel
theorem dX8_earns_25 : decode cX8_earns 25 = .ok (.iload_n 3, 1) := by decide +kernel
theorem dX8_earns_26 : decode cX8_earns 26 = .ok (.imul, 1) := by decide +kernel
theorem dX8_earns_27 : decode cX8_earns 27 = .ok (.aload_n 0, 1) := by decide +kernel
theorem dX8_earns_28 : decode cX8_earns 28 = .ok (.getfield 56, 3) := by decide +kernel
theorem dX8_earns_31 : decode cX8_earns 31 = .ok (.iload_n 3, 1) := by decide +kernel
theorem dX8_earns_32 : decode cX8_earns 32 = .ok (.iaload, 1) := by decide +kernel
theorem dX8_earns_33 : decode cX8_earns 33 = .ok (.iadd, 1) := by decide +kernel
theorem dX8_earns_34 : decode cX8_earns 34 = .ok (.iaload, 1) := by decide +kernel
theorem dX8_earns_35 : decode cX8_earns 35 = .ok (.imul, 1) := by decide +kernel
theorem dX8_earns_36 : decode cX8_earns 36 = .ok (.aload_n 0, 1) := by decide +kernel
theorem dX8_earns_37 : decode cX8_earns 37 = .ok (.getfield 59, 3) := by decide +kernel
theorem dX8_earns_40 : decode cX8_earns 40 = .ok (.iload_n 3, 1) := by decide +kernel
theorem dX8_earns_41 : decode cX8_earns 41 = .ok (.iaload, 1) := by decide +kernel
theorem dX8_earns_42 : decode cX8_earns 42 = .ok (.imul, 1) := by decide +kernel
theorem dX8_earns_43 : decode cX8_earns 43 = .ok (.iadd, 1) := by decide +kernel
theorem dX8_earns_44 : decode cX8_earns 44 = .ok (.istore_n 2, 1) := by decide +kernel
theorem dX8_earns_45 : decode cX8_earns 45 = .ok (.iinc 3 1, 3) := by decide +kernel
theorem dX8_earns_48 : decode cX8_earns 48 = .ok (.goto (-44), 3) := by decide +kernel
theorem dX8_earns_51 : decode cX8_earns 51 = .ok (.iload_n 2, 1) := by decide +kernel
theorem dX8_earns_52 : decode cX8_earns 52 = .ok (.ireturn, 1) := by decide +kernel
theorem dX8_comes_0 : decode cX8_comes 0 = .ok (.iconst 0, 1) := by decide +kernel
theorem dX8_comes_1 : decode cX8_comes 1 = .ok (.istore_n 2, 1) := by decide +kernel
theorem dX8_comes_2 : decode cX8_comes 2 = .ok (.iconst 0, 1) := by decide +kernel
theorem dX8_comes_3 : decode cX8_comes 3 = .ok (.istore_n 3, 1) := by decide +kernel
theorem dX8_comes_4 : decode cX8_comes 4 = .ok (.aload_n 0, 1) := by decide +kernel
theorem dX8_comes_5 : decode cX8_comes 5 = .ok (.iconst 0, 1) := by decide +kernel
theorem dX8_comes_6 : decode cX8_comes 6 = .ok (.putfield 158, 3) := by decide +kernel
theorem dX8_comes_9 : decode cX8_comes 9 = .ok (.iconst 0, 1) := by decide +kernel
theorem dX8_comes_10 : decode cX8_comes 10 = .ok (.istore 4, 2) := by decide +kernel
theorem dX8_comes_12 : decode cX8_comes 12 = .ok (.iload 4, 2) := by decide +kernel
theorem dX8_comes_14 : decode cX8_comes 14 = .ok (.aload_n 0, 1) := by decide +kernel
theorem dX8_comes_15 : decode cX8_comes 15 = .ok (.getfield 119, 3) := by decide +kernel
theorem dX8_comes_18 : decode cX8_comes 18 = .ok (.if_icmp .ge 113, 3) := by decide +kernel
theorem dX8_comes_21 : decode cX8_comes 21 = .ok (.aload_n 0, 1) := by decide +kernel
theorem dX8_comes_22 : decode cX8_comes 22 = .ok (.getfield 56, 3) := by decide +kernel
theorem dX8_comes_25 : decode cX8_comes 25 = .ok (.iload 4, 2) := by decide +kernel
theorem dX8_comes_27 : decode cX8_comes 27 = .ok (.iaload, 1) := by decide +kernel
theorem dX8_comes_28 : decode cX8_comes 28 = .ok (.aload_n 0, 1) := by decide +kernel
theorem dX8_comes_29 : decode cX8_comes 29 = .ok (.getfield 59, 3) := by decide +kernel
theorem dX8_comes_32 : decode cX8_comes 32 = .ok (.iload 4, 2) := by decide +kernel
theorem dX8_comes_34 : decode cX8_comes 34 = .ok (.iaload, 1) := by decide +kernel
theorem dX8_comes_35 : decode cX8_comes 35 = .ok (.isub, 1) := by decide +kernel
theorem dX8_comes_36 : decode cX8_comes 36 = .ok (.iload 4, 2) := by decide +kernel
theorem dX8_comes_38 : decode cX8_comes 38 = .ok (.ifCond .le 15, 3) := by decide +kernel
theorem dX8_comes_41 : decode cX8_comes 41 = .ok (.aload_n 0, 1) := by decide +kernel
theorem dX8_comes_42 : decode cX8_comes 42 = .ok (.getfield 59, 3) := by decide +kernel
theorem dX8_comes_45 : decode cX8_comes 45 = .ok (.iload 4, 2) := by decide +kernel
theorem dX8_comes_47 : decode cX8_comes 47 = .ok (.iconst 1, 1) := by decide +kernel
theorem dX8_comes_48 : decode cX8_comes 48 = .ok (.isub, 1) := by decide +kernel
theorem dX8_comes_49 : decode cX8_comes 49 = .ok (.iaload, 1) := by decide +kernel
theorem dX8_comes_50 : decode cX8_comes 50 = .ok (.goto 4, 3) := by decide +kernel
theorem dX8_comes_53 : decode cX8_comes 53 = .ok (.iconst 0, 1) := by decide +kernel
theorem dX8_comes_54 : decode cX8_comes 54 = .ok (.iadd, 1) := by decide +kernel
theorem dX8_comes_55 : decode cX8_comes 55 = .ok (.aload_n 0, 1) := by decide +kernel
theorem dX8_comes_56 : decode cX8_comes 56 = .ok (.getfield 53, 3) := by decide +kernel
theorem dX8_comes_59 : decode cX8_comes 59 = .ok (.iconst 3, 1) := by decide +kernel
theorem dX8_comes_60 : decode cX8_comes 60 = .ok (.iload_n 1, 1) := by decide +kernel
theorem dX8_comes_61 : decode cX8_comes 61 = .ok (.imul, 1) := by decide +kernel
theorem dX8_comes_62 : decode cX8_comes 62 = .ok (.iload 4, 2) := by decide +kernel
theorem dX8_comes_64 : decode cX8_comes 64 = .ok (.iadd, 1) := by decide +kernel
theorem dX8_comes_65 : decode cX8_comes 65 = .ok (.iaload, 1) := by decide +kernel
theorem dX8_comes_66 : decode cX8_comes 66 = .ok (.iadd, 1) := by decide +kernel
theorem dX8_comes_67 : decode cX8_comes 67 = .ok (.iload_n 3, 1) := by decide +kernel
theorem dX8_comes_68 : decode cX8_comes 68 = .ok (.iadd, 1) := by decide +kernel
theorem dX8_comes_69 : decode cX8_comes 69 = .ok (.istore 5, 2) := by decide +kernel
theorem dX8_comes_71 : decode cX8_comes 71 = .ok (.iload 5, 2) := by decide +kernel
theorem dX8_comes_73 : decode cX8_comes 73 = .ok (.aload_n 0, 1) := by decide +kernel
theorem dX8_comes_74 : decode cX8_comes 74 = .ok (.getfield 17, 3) := by decide +kernel
theorem dX8_comes_77 : decode cX8_comes 77 = .ok (.iload 4, 2) := by decide +kernel
theorem dX8_comes_79 : decode cX8_comes 79 = .ok (.iaload, 1) := by decide +kernel
theorem dX8_comes_80 : decode cX8_comes 80 = .ok (.if_icmp .le 16, 3) := by decide +kernel
theorem dX8_comes_83 : decode cX8_comes 83 = .ok (.iload 5, 2) := by decide +kernel
theorem dX8_comes_85 : decode cX8_comes 85 = .ok (.aload_n 0, 1) := by decide +kernel
theorem dX8_comes_86 : decode cX8_comes 86 = .ok (.getfield 17, 3) := by decide +kernel
theorem dX8_comes_89 : decode cX8_comes 89 = .ok (.iload 4, 2) := by decide +kernel
theorem dX8_comes_91 : decode cX8_comes 91 = .ok (.iaload, 1) := by decide +kernel
theorem dX8_comes_92 : decode cX8_comes 92 = .ok (.isub, 1) := by decide +kernel
theorem dX8_comes_93 : decode cX8_comes 93 = .ok (.goto 4, 3) := by decide +kernel
theorem dX8_comes_96 : decode cX8_comes 96 = .ok (.iconst 0, 1) := by decide +kernel
theorem dX8_comes_97 : decode cX8_comes 97 = .ok (.istore_n 3, 1) := by decide +kernel
theorem dX8_comes_98 : decode cX8_comes 98 = .ok (.aload_n 0, 1) := by decide +kernel
theorem dX8_comes_99 : decode cX8_comes 99 = .ok (.dup, 1) := by decide +kernel
theorem dX8_comes_100 : decode cX8_comes 100 = .ok (.getfield 158, 3) := by decide +kernel
theorem dX8_comes_103 : decode cX8_comes 103 = .ok (.iload_n 3, 1) := by decide +kernel
theorem dX8_comes_104 : decode cX8_comes 104 = .ok (.iadd, 1) := by decide +kernel
theorem dX8_comes_105 : decode cX8_comes 105 = .ok (.putfield 158, 3) := by decide +kernel
theorem dX8_comes_108 : decode cX8_comes 108 = .ok (.iload_n 2, 1) := by decide +kernel
theorem dX8_comes_109 : decode cX8_comes 109 = .ok (.aload_n 0, 1) := by decide +kernel
theorem dX8_comes_110 : decode cX8_comes 110 = .ok (.getfield 17, 3) := by decide +kernel
theorem dX8_comes_113 : decode cX8_comes 113 = .ok (.iload 4, 2) := by decide +kernel
theorem dX8_comes_115 : decode cX8_comes 115 = .ok (.iaload, 1) := by decide +kernel
theorem dX8_comes_116 : decode cX8_comes 116 = .ok (.iconst 1, 1) := by decide +kernel
theorem dX8_comes_117 : decode cX8_comes 117 = .ok (.iadd, 1) := by decide +kernel
theorem dX8_comes_118 : decode cX8_comes 118 = .ok (.imul, 1) := by decide +kernel
theorem dX8_comes_119 : decode cX8_comes 119 = .ok (.iload 5, 2) := by decide +kernel
theorem dX8_comes_121 : decode cX8_comes 121 = .ok (.iadd, 1) := by decide +kernel
theorem dX8_comes_122 : decode cX8_comes 122 = .ok (.iload_n 3, 1) := by decide +kernel
theorem dX8_comes_123 : decode cX8_comes 123 = .ok (.isub, 1) := by decide +kernel
theorem dX8_comes_124 : decode cX8_comes 124 = .ok (.istore_n 2, 1) := by decide +kernel
theorem dX8_comes_125 : decode cX8_comes 125 = .ok (.iinc 4 1, 3) := by decide +kernel
theorem dX8_comes_128 : decode cX8_comes 128 = .ok (.goto (-116), 3) := by decide +kernel
theorem dX8_comes_131 : decode cX8_comes 131 = .ok (.iload_n 2, 1) := by decide +kernel
theorem dX8_comes_132 : decode cX8_comes 132 = .ok (.ireturn, 1) := by decide +kernel
theorem dX8_firstLets_0 : decode cX8_firstLets 0 = .ok (.iconst 0, 1) := by decide +kernel
theorem dX8_firstLets_1 : decode cX8_firstLets 1 = .ok (.istore_n 1, 1) := by decide +kernel
theorem dX8_firstLets_2 : decode cX8_firstLets 2 = .ok (.iload_n 1, 1) := by decide +kernel
theorem dX8_firstLets_3 : decode cX8_firstLets 3 = .ok (.aload_n 0, 1) := by decide +kernel
theorem dX8_firstLets_4 : decode cX8_firstLets 4 = .ok (.getfield 119, 3) := by decide +kernel
theorem dX8_firstLets_7 : decode cX8_firstLets 7 = .ok (.if_icmp .ge 20, 3) := by decide +kernel
theorem dX8_firstLets_10 : decode cX8_firstLets 10 = .ok (.aload_n 0, 1) := by decide +kernel
theorem dX8_firstLets_11 : decode cX8_firstLets 11 = .ok (.getfield 59, 3) := by decide +kernel
theorem dX8_firstLets_14 : decode cX8_firstLets 14 = .ok (.iload_n 1, 1) := by decide +kernel
theorem dX8_firstLets_15 : decode cX8_firstLets 15 = .ok (.aload_n 0, 1) := by decide +kernel
theorem dX8_firstLets_16 : decode cX8_firstLets 16 = .ok (.iload_n 1, 1) := by decide +kernel
theorem dX8_firstLets_17 : decode cX8_firstLets 17 = .ok (.invokevirtual 155, 3) := by decide +kernel
theorem dX8_firstLets_20 : decode cX8_firstLets 20 = .ok (.iastore, 1) := by decide +kernel
theorem dX8_firstLets_21 : decode cX8_firstLets 21 = .ok (.iinc 1 1, 3) := by decide +kernel
theorem dX8_firstLets_24 : decode cX8_firstLets 24 = .ok (.goto (-22), 3) := by decide +kernel
theorem dX8_firstLets_27 : decode cX8_firstLets 27 = .ok (.return_, 1) := by decide +kernel
theorem dX8_nextLets_0 : decode cX8_nextLets 0 = .ok (.aload_n 0, 1) := by decide +kernel
theorem dX8_nextLets_1 : decode cX8_nextLets 1 = .ok (.getfield 119, 3) := by decide +kernel
theorem dX8_nextLets_4 : decode cX8_nextLets 4 = .ok (.iconst 1, 1) := by decide +kernel
theorem dX8_nextLets_5 : decode cX8_nextLets 5 = .ok (.isub, 1) := by decide +kernel
theorem dX8_nextLets_6 : decode cX8_nextLets 6 = .ok (.istore_n 1, 1) := by decide +kernel
theorem dX8_nextLets_7 : decode cX8_nextLets 7 = .ok (.iload_n 1, 1) := by decide +kernel
theorem dX8_nextLets_8 : decode cX8_nextLets 8 = .ok (.ifCond .lt 34, 3) := by decide +kernel
theorem dX8_nextLets_11 : decode cX8_nextLets 11 = .ok (.aload_n 0, 1) := by decide +kernel
theorem dX8_nextLets_12 : decode cX8_nextLets 12 = .ok (.getfield 59, 3) := by decide +kernel
theorem dX8_nextLets_15 : decode cX8_nextLets 15 = .ok (.iload_n 1, 1) := by decide +kernel
theorem dX8_nextLets_16 : decode cX8_nextLets 16 = .ok (.iaload, 1) := by decide +kernel
theorem dX8_nextLets_17 : decode cX8_nextLets 17 = .ok (.aload_n 0, 1) := by decide +kernel
theorem dX8_nextLets_18 : decode cX8_nextLets 18 = .ok (.iload_n 1, 1) := by decide +kernel
theorem dX8_nextLets_19 : decode cX8_nextLets 19 = .ok (.invokevirtual 161, 3) := by decide +kernel
theorem dX8_nextLets_22 : decode cX8_nextLets 22 = .ok (.if_icmp .ne 20, 3) := by decide +kernel
theorem dX8_nextLets_25 : decode cX8_nextLets 25 = .ok (.aload_n 0, 1) := by decide +kernel
theorem dX8_nextLets_26 : decode cX8_nextLets 26 = .ok (.getfield 59, 3) := by decide +kernel
theorem dX8_nextLets_29 : decode cX8_nextLets 29 = .ok (.iload_n 1, 1) := by decide +kernel
theorem dX8_nextLets_30 : decode cX8_nextLets 30 = .ok (.aload_n 0, 1) := by decide +kernel
theorem dX8_nextLets_31 : decode cX8_nextLets 31 = .ok (.iload_n 1, 1) := by decide +kernel
theorem dX8_nextLets_32 : decode cX8_nextLets 32 = .ok (.invokevirtual 155, 3) := by decide +kernel
theorem dX8_nextLets_35 : decode cX8_nextLets 35 = .ok (.iastore, 1) := by decide +kernel
theorem dX8_nextLets_36 : decode cX8_nextLets 36 = .ok (.iinc 1 (-1), 3) := by decide +kernel
theorem dX8_nextLets_39 : decode cX8_nextLets 39 = .ok (.goto (-32), 3) := by decide +kernel
theorem dX8_nextLets_42 : decode cX8_nextLets 42 = .ok (.iload_n 1, 1) := by decide +kernel
theorem dX8_nextLets_43 : decode cX8_nextLets 43 = .ok (.ifCond .ge 5, 3) := by decide +kernel
theorem dX8_nextLets_46 : decode cX8_nextLets 46 = .ok (.iconst 0, 1) := by decide +kernel
theorem dX8_nextLets_47 : decode cX8_nextLets 47 = .ok (.ireturn, 1) := by decide +kernel
theorem dX8_nextLets_48 : decode cX8_nextLets 48 = .ok (.aload_n 0, 1) := by decide +kernel
theorem dX8_nextLets_49 : decode cX8_nextLets 49 = .ok (.getfield 59, 3) := by decide +kernel
theorem dX8_nextLets_52 : decode cX8_nextLets 52 = .ok (.iload_n 1, 1) := by decide +kernel
theorem dX8_nextLets_53 : decode cX8_nextLets 53 = .ok (.dup2, 1) := by decide +kernel
theorem dX8_nextLets_54 : decode cX8_nextLets 54 = .ok (.iaload, 1) := by decide +kernel
theorem dX8_nextLets_55 : decode cX8_nextLets 55 = .ok (.iconst 1, 1) := by decide +kernel
theorem dX8_nextLets_56 : decode cX8_nextLets 56 = .ok (.iadd, 1) := by decide +kernel
theorem dX8_nextLets_57 : decode cX8_nextLets 57 = .ok (.iastore, 1) := by decide +kernel
theorem dX8_nextLets_58 : decode cX8_nextLets 58 = .ok (.iconst 1, 1) := by decide +kernel
theorem dX8_nextLets_59 : decode cX8_nextLets 59 = .ok (.ireturn, 1) := by decide +kernel
theorem dX8_endOf_0 : decode cX8_endOf 0 = .ok (.aload_n 0, 1) := by decide +kernel
theorem dX8_endOf_1 : decode cX8_endOf 1 = .ok (.iload_n 1, 1) := by decide +kernel
theorem dX8_endOf_2 : decode cX8_endOf 2 = .ok (.invokevirtual 164, 3) := by decide +kernel
theorem dX8_endOf_5 : decode cX8_endOf 5 = .ok (.iconst 0, 1) := by decide +kernel
theorem dX8_endOf_6 : decode cX8_endOf 6 = .ok (.istore_n 2, 1) := by decide +kernel
theorem dX8_endOf_7 : decode cX8_endOf 7 = .ok (.iconst 0, 1) := by decide +kernel
theorem dX8_endOf_8 : decode cX8_endOf 8 = .ok (.istore_n 3, 1) := by decide +kernel
theorem dX8_endOf_9 : decode cX8_endOf 9 = .ok (.iload_n 3, 1) := by decide +kernel
theorem dX8_endOf_10 : decode cX8_endOf 10 = .ok (.aload_n 0, 1) := by decide +kernel
theorem dX8_endOf_11 : decode cX8_endOf 11 = .ok (.getfield 119, 3) := by decide +kernel
theorem dX8_endOf_14 : decode cX8_endOf 14 = .ok (.if_icmp .ge 25, 3) := by decide +kernel
theorem dX8_endOf_17 : decode cX8_endOf 17 = .ok (.iload_n 2, 1) := by decide +kernel
theorem dX8_endOf_18 : decode cX8_endOf 18 = .ok (.aload_n 0, 1) := by decide +kernel
theorem dX8_endOf_19 : decode cX8_endOf 19 = .ok (.getfield 29, 3) := by decide +kernel
theorem dX8_endOf_22 : decode cX8_endOf 22 = .ok (.iload_n 3, 1) := by decide +kernel
theorem dX8_endOf_23 : decode cX8_endOf 23 = .ok (.iaload, 1) := by decide +kernel
theorem dX8_endOf_24 : decode cX8_endOf 24 = .ok (.aload_n 0, 1) := by decide +kernel
theorem dX8_endOf_25 : decode cX8_endOf 25 = .ok (.getfield 56, 3) := by decide +kernel
theorem dX8_endOf_28 : decode cX8_endOf 28 = .ok (.iload_n 3, 1) := by decide +kernel
theorem dX8_endOf_29 : decode cX8_endOf 29 = .ok (.iaload, 1) := by decide +kernel
theorem dX8_endOf_30 : decode cX8_endOf 30 = .ok (.imul, 1) := by decide +kernel
theorem dX8_endOf_31 : decode cX8_endOf 31 = .ok (.iadd, 1) := by decide +kernel
theorem dX8_endOf_32 : decode cX8_endOf 32 = .ok (.istore_n 2, 1) := by decide +kernel
theorem dX8_endOf_33 : decode cX8_endOf 33 = .ok (.iinc 3 1, 3) := by decide +kernel
theorem dX8_endOf_36 : decode cX8_endOf 36 = .ok (.goto (-27), 3) := by decide +kernel
theorem dX8_endOf_39 : decode cX8_endOf 39 = .ok (.iload_n 2, 1) := by decide +kernel
theorem dX8_endOf_40 : decode cX8_endOf 40 = .ok (.ireturn, 1) := by decide +kernel
theorem dX8_prepare_0 : decode cX8_prepare 0 = .ok (.iconst 0, 1) := by decide +kernel
theorem dX8_prepare_1 : decode cX8_prepare 1 = .ok (.istore_n 1, 1) := by decide +kernel
theorem dX8_prepare_2 : decode cX8_prepare 2 = .ok (.iload_n 1, 1) := by decide +kernel
theorem dX8_prepare_3 : decode cX8_prepare 3 = .ok (.ldc 62, 2) := by decide +kernel
theorem dX8_prepare_5 : decode cX8_prepare 5 = .ok (.if_icmp .ge 16, 3) := by decide +kernel
theorem dX8_prepare_8 : decode cX8_prepare 8 = .ok (.aload_n 0, 1) := by decide +kernel
theorem dX8_prepare_9 : decode cX8_prepare 9 = .ok (.getfield 67, 3) := by decide +kernel
theorem dX8_prepare_12 : decode cX8_prepare 12 = .ok (.iload_n 1, 1) := by decide +kernel
theorem dX8_prepare_13 : decode cX8_prepare 13 = .ok (.iconst 0, 1) := by decide +kernel
theorem dX8_prepare_14 : decode cX8_prepare 14 = .ok (.bastore, 1) := by decide +kernel
theorem dX8_prepare_15 : decode cX8_prepare 15 = .ok (.iinc 1 1, 3) := by decide +kernel
theorem dX8_prepare_18 : decode cX8_prepare 18 = .ok (.goto (-16), 3) := by decide +kernel
theorem dX8_prepare_21 : decode cX8_prepare 21 = .ok (.aload_n 0, 1) := by decide +kernel
theorem dX8_prepare_22 : decode cX8_prepare 22 = .ok (.getfield 130, 3) := by decide +kernel
theorem dX8_prepare_25 : decode cX8_prepare 25 = .ok (.ifCond .eq 4, 3) := by decide +kernel
theorem dX8_prepare_28 : decode cX8_prepare 28 = .ok (.return_, 1) := by decide +kernel
theorem dX8_prepare_29 : decode cX8_prepare 29 = .ok (.aload_n 0, 1) := by decide +kernel
theorem dX8_prepare_30 : decode cX8_prepare 30 = .ok (.iconst 1, 1) := by decide +kernel
theorem dX8_prepare_31 : decode cX8_prepare 31 = .ok (.putfield 130, 3) := by decide +kernel
theorem dX8_prepare_34 : decode cX8_prepare 34 = .ok (.iconst 0, 1) := by decide +kernel
theorem dX8_prepare_35 : decode cX8_prepare 35 = .ok (.istore_n 1, 1) := by decide +kernel
theorem dX8_prepare_36 : decode cX8_prepare 36 = .ok (.iload_n 1, 1) := by decide +kernel
theorem dX8_prepare_37 : decode cX8_prepare 37 = .ok (.ldc 62, 2) := by decide +kernel
theorem dX8_prepare_39 : decode cX8_prepare 39 = .ok (.if_icmp .ge 16, 3) := by decide +kernel
theorem dX8_prepare_42 : decode cX8_prepare 42 = .ok (.aload_n 0, 1) := by decide +kernel
theorem dX8_prepare_43 : decode cX8_prepare 43 = .ok (.getfield 63, 3) := by decide +kernel
theorem dX8_prepare_46 : decode cX8_prepare 46 = .ok (.iload_n 1, 1) := by decide +kernel
theorem dX8_prepare_47 : decode cX8_prepare 47 = .ok (.iconst 0, 1) := by decide +kernel
theorem dX8_prepare_48 : decode cX8_prepare 48 = .ok (.bastore, 1) := by decide +kernel
theorem dX8_prepare_49 : decode cX8_prepare 49 = .ok (.iinc 1 1, 3) := by decide +kernel
theorem dX8_prepare_52 : decode cX8_prepare 52 = .ok (.goto (-16), 3) := by decide +kernel
theorem dX8_prepare_55 : decode cX8_prepare 55 = .ok (.return_, 1) := by decide +kernel
theorem dX8_work_0 : decode cX8_work 0 = .ok (.iload_n 1, 1) := by decide +kernel
theorem dX8_work_1 : decode cX8_work 1 = .ok (.istore_n 2, 1) := by decide +kernel
theorem dX8_work_2 : decode cX8_work 2 = .ok (.iload_n 2, 1) := by decide +kernel
theorem dX8_work_3 : decode cX8_work 3 = .ok (.aload_n 0, 1) := by decide +kernel
theorem dX8_work_4 : decode cX8_work 4 = .ok (.getfield 41, 3) := by decide +kernel
theorem dX8_work_7 : decode cX8_work 7 = .ok (.if_icmp .ge 76, 3) := by decide +kernel
theorem dX8_work_10 : decode cX8_work 10 = .ok (.iconst 0, 1) := by decide +kernel
theorem dX8_work_11 : decode cX8_work 11 = .ok (.istore_n 3, 1) := by decide +kernel
theorem dX8_work_12 : decode cX8_work 12 = .ok (.iload_n 3, 1) := by decide +kernel
theorem dX8_work_13 : decode cX8_work 13 = .ok (.aload_n 0, 1) := by decide +kernel
theorem dX8_work_14 : decode cX8_work 14 = .ok (.invokevirtual 126, 3) := by decide +kernel
theorem dX8_work_17 : decode cX8_work 17 = .ok (.if_icmp .ge 60, 3) := by decide +kernel
theorem dX8_work_20 : decode cX8_work 20 = .ok (.aload_n 0, 1) := by decide +kernel
theorem dX8_work_21 : decode cX8_work 21 = .ok (.getfield 67, 3) := by decide +kernel
theorem dX8_work_24 : decode cX8_work 24 = .ok (.sipush 1000, 3) := by decide +kernel
theorem dX8_work_27 : decode cX8_work 27 = .ok (.iload_n 2, 1) := by decide +kernel
theorem dX8_work_28 : decode cX8_work 28 = .ok (.imul, 1) := by decide +kernel
theorem dX8_work_29 : decode cX8_work 29 = .ok (.iload_n 3, 1) := by decide +kernel
theorem dX8_work_30 : decode cX8_work 30 = .ok (.iadd, 1) := by decide +kernel
theorem dX8_work_31 : decode cX8_work 31 = .ok (.baload, 1) := by decide +kernel
theorem dX8_work_32 : decode cX8_work 32 = .ok (.ifCond .eq 39, 3) := by decide +kernel
theorem dX8_work_35 : decode cX8_work 35 = .ok (.aload_n 0, 1) := by decide +kernel
theorem dX8_work_36 : decode cX8_work 36 = .ok (.getfield 63, 3) := by decide +kernel
theorem dX8_work_39 : decode cX8_work 39 = .ok (.sipush 1000, 3) := by decide +kernel
theorem dX8_work_42 : decode cX8_work 42 = .ok (.iload_n 2, 1) := by decide +kernel
theorem dX8_work_43 : decode cX8_work 43 = .ok (.imul, 1) := by decide +kernel
theorem dX8_work_44 : decode cX8_work 44 = .ok (.iload_n 3, 1) := by decide +kernel
theorem dX8_work_45 : decode cX8_work 45 = .ok (.iadd, 1) := by decide +kernel
theorem dX8_work_46 : decode cX8_work 46 = .ok (.baload, 1) := by decide +kernel
theorem dX8_work_47 : decode cX8_work 47 = .ok (.ifCond .ne 24, 3) := by decide +kernel
theorem dX8_work_50 : decode cX8_work 50 = .ok (.aload_n 0, 1) := by decide +kernel
theorem dX8_work_51 : decode cX8_work 51 = .ok (.getfield 50, 3) := by decide +kernel
theorem dX8_work_54 : decode cX8_work 54 = .ok (.iload_n 2, 1) := by decide +kernel
theorem dX8_work_55 : decode cX8_work 55 = .ok (.iaload, 1) := by decide +kernel
theorem dX8_work_56 : decode cX8_work 56 = .ok (.aload_n 0, 1) := by decide +kernel
theorem dX8_work_57 : decode cX8_work 57 = .ok (.getfield 32, 3) := by decide +kernel
theorem dX8_work_60 : decode cX8_work 60 = .ok (.iconst 1, 1) := by decide +kernel
theorem dX8_work_61 : decode cX8_work 61 = .ok (.isub, 1) := by decide +kernel
theorem dX8_work_62 : decode cX8_work 62 = .ok (.if_icmp .ge 9, 3) := by decide +kernel
theorem dX8_work_65 : decode cX8_work 65 = .ok (.aload_n 0, 1) := by decide +kernel
theorem dX8_work_66 : decode cX8_work 66 = .ok (.iload_n 2, 1) := by decide +kernel
theorem dX8_work_67 : decode cX8_work 67 = .ok (.iload_n 3, 1) := by decide +kernel
theorem dX8_work_68 : decode cX8_work 68 = .ok (.invokevirtual 168, 3) := by decide +kernel
theorem dX8_work_71 : decode cX8_work 71 = .ok (.iinc 3 1, 3) := by decide +kernel
theorem dX8_work_74 : decode cX8_work 74 = .ok (.goto (-62), 3) := by decide +kernel
theorem dX8_work_77 : decode cX8_work 77 = .ok (.iinc 2 1, 3) := by decide +kernel
theorem dX8_work_80 : decode cX8_work 80 = .ok (.goto (-78), 3) := by decide +kernel
theorem dX8_work_83 : decode cX8_work 83 = .ok (.aload_n 0, 1) := by decide +kernel
theorem dX8_work_84 : decode cX8_work 84 = .ok (.getfield 41, 3) := by decide +kernel
theorem dX8_work_87 : decode cX8_work 87 = .ok (.iconst 1, 1) := by decide +kernel
theorem dX8_work_88 : decode cX8_work 88 = .ok (.isub, 1) := by decide +kernel
theorem dX8_work_89 : decode cX8_work 89 = .ok (.istore_n 2, 1) := by decide +kernel
theorem dX8_work_90 : decode cX8_work 90 = .ok (.iload_n 2, 1) := by decide +kernel
theorem dX8_work_91 : decode cX8_work 91 = .ok (.iload_n 1, 1) := by decide +kernel
theorem dX8_work_92 : decode cX8_work 92 = .ok (.if_icmp .lt 61, 3) := by decide +kernel
theorem dX8_work_95 : decode cX8_work 95 = .ok (.iconst 0, 1) := by decide +kernel
theorem dX8_work_96 : decode cX8_work 96 = .ok (.istore_n 3, 1) := by decide +kernel
theorem dX8_work_97 : decode cX8_work 97 = .ok (.iload_n 3, 1) := by decide +kernel
theorem dX8_work_98 : decode cX8_work 98 = .ok (.aload_n 0, 1) := by decide +kernel
theorem dX8_work_99 : decode cX8_work 99 = .ok (.invokevirtual 126, 3) := by decide +kernel
theorem dX8_work_102 : decode cX8_work 102 = .ok (.if_icmp .ge 45, 3) := by decide +kernel
theorem dX8_work_105 : decode cX8_work 105 = .ok (.aload_n 0, 1) := by decide +kernel
theorem dX8_work_106 : decode cX8_work 106 = .ok (.getfield 67, 3) := by decide +kernel
theorem dX8_work_109 : decode cX8_work 109 = .ok (.sipush 1000, 3) := by decide +kernel
theorem dX8_work_112 : decode cX8_work 112 = .ok (.iload_n 2, 1) := by decide +kernel
theorem dX8_work_113 : decode cX8_work 113 = .ok (.imul, 1) := by decide +kernel
theorem dX8_work_114 : decode cX8_work 114 = .ok (.iload_n 3, 1) := by decide +kernel
theorem dX8_work_115 : decode cX8_work 115 = .ok (.iadd, 1) := by decide +kernel
theorem dX8_work_116 : decode cX8_work 116 = .ok (.baload, 1) := by decide +kernel
theorem dX8_work_117 : decode cX8_work 117 = .ok (.ifCond .eq 24, 3) := by decide +kernel
theorem dX8_work_120 : decode cX8_work 120 = .ok (.aload_n 0, 1) := by decide +kernel
theorem dX8_work_121 : decode cX8_work 121 = .ok (.getfield 63, 3) := by decide +kernel
theorem dX8_work_124 : decode cX8_work 124 = .ok (.sipush 1000, 3) := by decide +kernel
theorem dX8_work_127 : decode cX8_work 127 = .ok (.iload_n 2, 1) := by decide +kernel
theorem dX8_work_128 : decode cX8_work 128 = .ok (.imul, 1) := by decide +kernel
theorem dX8_work_129 : decode cX8_work 129 = .ok (.iload_n 3, 1) := by decide +kernel
theorem dX8_work_130 : decode cX8_work 130 = .ok (.iadd, 1) := by decide +kernel
theorem dX8_work_131 : decode cX8_work 131 = .ok (.baload, 1) := by decide +kernel
theorem dX8_work_132 : decode cX8_work 132 = .ok (.ifCond .ne 9, 3) := by decide +kernel
theorem dX8_work_135 : decode cX8_work 135 = .ok (.aload_n 0, 1) := by decide +kernel
theorem dX8_work_136 : decode cX8_work 136 = .ok (.iload_n 2, 1) := by decide +kernel
theorem dX8_work_137 : decode cX8_work 137 = .ok (.iload_n 3, 1) := by decide +kernel
theorem dX8_work_138 : decode cX8_work 138 = .ok (.invokevirtual 172, 3) := by decide +kernel
theorem dX8_work_141 : decode cX8_work 141 = .ok (.iinc 3 1, 3) := by decide +kernel
theorem dX8_work_144 : decode cX8_work 144 = .ok (.goto (-47), 3) := by decide +kernel
theorem dX8_work_147 : decode cX8_work 147 = .ok (.iinc 2 (-1), 3) := by decide +kernel
theorem dX8_work_150 : decode cX8_work 150 = .ok (.goto (-60), 3) := by decide +kernel
theorem dX8_work_153 : decode cX8_work 153 = .ok (.return_, 1) := by decide +kernel
theorem dX8_spread_0 : decode cX8_spread 0 = .ok (.aload_n 0, 1) := by decide +kernel
theorem dX8_spread_1 : decode cX8_spread 1 = .ok (.iload_n 2, 1) := by decide +kernel
theorem dX8_spread_2 : decode cX8_spread 2 = .ok (.invokevirtual 164, 3) := by decide +kernel
theorem dX8_spread_5 : decode cX8_spread 5 = .ok (.aload_n 0, 1) := by decide +kernel
theorem dX8_spread_6 : decode cX8_spread 6 = .ok (.invokevirtual 175, 3) := by decide +kernel
theorem dX8_spread_9 : decode cX8_spread 9 = .ok (.iconst 1, 1) := by decide +kernel
theorem dX8_spread_10 : decode cX8_spread 10 = .ok (.istore_n 3, 1) := by decide +kernel
theorem dX8_spread_11 : decode cX8_spread 11 = .ok (.iload_n 3, 1) := by decide +kernel
theorem dX8_spread_12 : decode cX8_spread 12 = .ok (.ifCond .eq 61, 3) := by decide +kernel
theorem dX8_spread_15 : decode cX8_spread 15 = .ok (.iload_n 1, 1) := by decide +kernel
theorem dX8_spread_16 : decode cX8_spread 16 = .ok (.iconst 1, 1) := by decide +kernel
theorem dX8_spread_17 : decode cX8_spread 17 = .ok (.iadd, 1) := by decide +kernel
theorem dX8_spread_18 : decode cX8_spread 18 = .ok (.istore 4, 2) := by decide +kernel
theorem dX8_spread_20 : decode cX8_spread 20 = .ok (.iload 4, 2) := by decide +kernel
theorem dX8_spread_22 : decode cX8_spread 22 = .ok (.aload_n 0, 1) := by decide +kernel
theorem dX8_spread_23 : decode cX8_spread 23 = .ok (.getfield 41, 3) := by decide +kernel
theorem dX8_spread_26 : decode cX8_spread 26 = .ok (.if_icmp .ge 39, 3) := by decide +kernel
theorem dX8_spread_29 : decode cX8_spread 29 = .ok (.aload_n 0, 1) := by decide +kernel
theorem dX8_spread_30 : decode cX8_spread 30 = .ok (.getfield 44, 3) := by decide +kernel
theorem dX8_spread_33 : decode cX8_spread 33 = .ok (.iload 4, 2) := by decide +kernel
theorem dX8_spread_35 : decode cX8_spread 35 = .ok (.iaload, 1) := by decide +kernel
theorem dX8_spread_36 : decode cX8_spread 36 = .ok (.iload_n 1, 1) := by decide +kernel
theorem dX8_spread_37 : decode cX8_spread 37 = .ok (.if_icmp .ne 22, 3) := by decide +kernel
theorem dX8_spread_40 : decode cX8_spread 40 = .ok (.aload_n 0, 1) := by decide +kernel
theorem dX8_spread_41 : decode cX8_spread 41 = .ok (.getfield 67, 3) := by decide +kernel
theorem dX8_spread_44 : decode cX8_spread 44 = .ok (.sipush 1000, 3) := by decide +kernel
theorem dX8_spread_47 : decode cX8_spread 47 = .ok (.iload 4, 2) := by decide +kernel
theorem dX8_spread_49 : decode cX8_spread 49 = .ok (.imul, 1) := by decide +kernel
theorem dX8_spread_50 : decode cX8_spread 50 = .ok (.aload_n 0, 1) := by decide +kernel
theorem dX8_spread_51 : decode cX8_spread 51 = .ok (.iload 4, 2) := by decide +kernel
theorem dX8_spread_53 : decode cX8_spread 53 = .ok (.invokevirtual 178, 3) := by decide +kernel
theorem dX8_spread_56 : decode cX8_spread 56 = .ok (.iadd, 1) := by decide +kernel
theorem dX8_spread_57 : decode cX8_spread 57 = .ok (.iconst 1, 1) := by decide +kernel
theorem dX8_spread_58 : decode cX8_spread 58 = .ok (.bastore, 1) := by decide +kernel
theorem dX8_spread_59 : decode cX8_spread 59 = .ok (.iinc 4 1, 3) := by decide +kernel
theorem dX8_spread_62 : decode cX8_spread 62 = .ok (.goto (-42), 3) := by decide +kernel
theorem dX8_spread_65 : decode cX8_spread 65 = .ok (.aload_n 0, 1) := by decide +kernel
theorem dX8_spread_66 : decode cX8_spread 66 = .ok (.invokevirtual 181, 3) := by decide +kernel
theorem dX8_spread_69 : decode cX8_spread 69 = .ok (.istore_n 3, 1) := by decide +kernel
theorem dX8_spread_70 : decode cX8_spread 70 = .ok (.goto (-59), 3) := by decide +kernel
theorem dX8_spread_73 : decode cX8_spread 73 = .ok (.return_, 1) := by decide +kernel
theorem dX8_scale_0 : decode cX8_scale 0 = .ok (.lconst 1, 1) := by decide +kernel
theorem dX8_scale_1 : decode cX8_scale 1 = .ok (.lstore_n 2, 1) := by decide +kernel
theorem dX8_scale_2 : decode cX8_scale 2 = .ok (.aload_n 0, 1) := by decide +kernel
theorem dX8_scale_3 : decode cX8_scale 3 = .ok (.getfield 50, 3) := by decide +kernel
theorem dX8_scale_6 : decode cX8_scale 6 = .ok (.iload_n 1, 1) := by decide +kernel
theorem dX8_scale_7 : decode cX8_scale 7 = .ok (.iaload, 1) := by decide +kernel
theorem dX8_scale_8 : decode cX8_scale 8 = .ok (.istore 4, 2) := by decide +kernel
theorem dX8_scale_10 : decode cX8_scale 10 = .ok (.iload 4, 2) := by decide +kernel
theorem dX8_scale_12 : decode cX8_scale 12 = .ok (.aload_n 0, 1) := by decide +kernel
theorem dX8_scale_13 : decode cX8_scale 13 = .ok (.getfield 32, 3) := by decide +kernel
theorem dX8_scale_16 : decode cX8_scale 16 = .ok (.iconst 1, 1) := by decide +kernel
theorem dX8_scale_17 : decode cX8_scale 17 = .ok (.isub, 1) := by decide +kernel
theorem dX8_scale_18 : decode cX8_scale 18 = .ok (.if_icmp .ge 17, 3) := by decide +kernel
theorem dX8_scale_21 : decode cX8_scale 21 = .ok (.lload_n 2, 1) := by decide +kernel
theorem dX8_scale_22 : decode cX8_scale 22 = .ok (.aload_n 0, 1) := by decide +kernel
theorem dX8_scale_23 : decode cX8_scale 23 = .ok (.getfield 35, 3) := by decide +kernel
theorem dX8_scale_26 : decode cX8_scale 26 = .ok (.i2l, 1) := by decide +kernel
theorem dX8_scale_27 : decode cX8_scale 27 = .ok (.lmul, 1) := by decide +kernel
theorem dX8_scale_28 : decode cX8_scale 28 = .ok (.lstore_n 2, 1) := by decide +kernel
theorem dX8_scale_29 : decode cX8_scale 29 = .ok (.iinc 4 1, 3) := by decide +kernel
theorem dX8_scale_32 : decode cX8_scale 32 = .ok (.goto (-22), 3) := by decide +kernel
theorem dX8_scale_35 : decode cX8_scale 35 = .ok (.lload_n 2, 1) := by decide +kernel
theorem dX8_scale_36 : decode cX8_scale 36 = .ok (.lreturn, 1) := by decide +kernel
theorem dX8_settle_0 : decode cX8_settle 0 = .ok (.sipush 1000, 3) := by decide +kernel
theorem dX8_settle_3 : decode cX8_settle 3 = .ok (.iload_n 1, 1) := by decide +kernel
theorem dX8_settle_4 : decode cX8_settle 4 = .ok (.imul, 1) := by decide +kernel
theorem dX8_settle_5 : decode cX8_settle 5 = .ok (.iload_n 2, 1) := by decide +kernel
theorem dX8_settle_6 : decode cX8_settle 6 = .ok (.iadd, 1) := by decide +kernel
theorem dX8_settle_7 : decode cX8_settle 7 = .ok (.istore_n 3, 1) := by decide +kernel
theorem dX8_settle_8 : decode cX8_settle 8 = .ok (.aload_n 0, 1) := by decide +kernel
theorem dX8_settle_9 : decode cX8_settle 9 = .ok (.getfield 63, 3) := by decide +kernel
theorem dX8_settle_12 : decode cX8_settle 12 = .ok (.iload_n 3, 1) := by decide +kernel
theorem dX8_settle_13 : decode cX8_settle 13 = .ok (.iconst 1, 1) := by decide +kernel
theorem dX8_settle_14 : decode cX8_settle 14 = .ok (.bastore, 1) := by decide +kernel
theorem dX8_settle_15 : decode cX8_settle 15 = .ok (.aload_n 0, 1) := by decide +kernel
theorem dX8_settle_16 : decode cX8_settle 16 = .ok (.getfield 50, 3) := by decide +kernel
theorem dX8_settle_19 : decode cX8_settle 19 = .ok (.iload_n 1, 1) := by decide +kernel
theorem dX8_settle_20 : decode cX8_settle 20 = .ok (.iaload, 1) := by decide +kernel
theorem dX8_settle_21 : decode cX8_settle 21 = .ok (.aload_n 0, 1) := by decide +kernel
theorem dX8_settle_22 : decode cX8_settle 22 = .ok (.getfield 32, 3) := by decide +kernel
theorem dX8_settle_25 : decode cX8_settle 25 = .ok (.iconst 1, 1) := by decide +kernel
theorem dX8_settle_26 : decode cX8_settle 26 = .ok (.isub, 1) := by decide +kernel
theorem dX8_settle_27 : decode cX8_settle 27 = .ok (.if_icmp .ne 16, 3) := by decide +kernel
theorem dX8_settle_30 : decode cX8_settle 30 = .ok (.aload_n 0, 1) := by decide +kernel
theorem dX8_settle_31 : decode cX8_settle 31 = .ok (.getfield 70, 3) := by decide +kernel
theorem dX8_settle_34 : decode cX8_settle 34 = .ok (.iload_n 3, 1) := by decide +kernel
theorem dX8_settle_35 : decode cX8_settle 35 = .ok (.aload_n 0, 1) := by decide +kernel
theorem dX8_settle_36 : decode cX8_settle 36 = .ok (.iload_n 2, 1) := by decide +kernel
theorem dX8_settle_37 : decode cX8_settle 37 = .ok (.invokevirtual 184, 3) := by decide +kernel
theorem dX8_settle_40 : decode cX8_settle 40 = .ok (.i2l, 1) := by decide +kernel
theorem dX8_settle_41 : decode cX8_settle 41 = .ok (.lastore, 1) := by decide +kernel
theorem dX8_settle_42 : decode cX8_settle 42 = .ok (.return_, 1) := by decide +kernel
theorem dX8_settle_43 : decode cX8_settle 43 = .ok (.aload_n 0, 1) := by decide +kernel
theorem dX8_settle_44 : decode cX8_settle 44 = .ok (.iload_n 2, 1) := by decide +kernel
theorem dX8_settle_45 : decode cX8_settle 45 = .ok (.invokevirtual 164, 3) := by decide +kernel
theorem dX8_settle_48 : decode cX8_settle 48 = .ok (.aload_n 0, 1) := by decide +kernel
theorem dX8_settle_49 : decode cX8_settle 49 = .ok (.invokevirtual 175, 3) := by decide +kernel
theorem dX8_settle_52 : decode cX8_settle 52 = .ok (.aload_n 0, 1) := by decide +kernel
theorem dX8_settle_53 : decode cX8_settle 53 = .ok (.iload_n 1, 1) := by decide +kernel
theorem dX8_settle_54 : decode cX8_settle 54 = .ok (.invokevirtual 187, 3) := by decide +kernel
theorem dX8_settle_57 : decode cX8_settle 57 = .ok (.lstore 4, 2) := by decide +kernel
theorem dX8_settle_59 : decode cX8_settle 59 = .ok (.iconst 1, 1) := by decide +kernel
theorem dX8_settle_60 : decode cX8_settle 60 = .ok (.istore 6, 2) := by decide +kernel
theorem dX8_settle_62 : decode cX8_settle 62 = .ok (.iconst 1, 1) := by decide +kernel
theorem dX8_settle_63 : decode cX8_settle 63 = .ok (.istore 7, 2) := by decide +kernel
theorem dX8_settle_65 : decode cX8_settle 65 = .ok (.iload 7, 2) := by decide +kernel
theorem dX8_settle_67 : decode cX8_settle 67 = .ok (.ifCond .eq 153, 3) := by decide +kernel
theorem dX8_settle_70 : decode cX8_settle 70 = .ok (.lload 4, 2) := by decide +kernel
theorem dX8_settle_72 : decode cX8_settle 72 = .ok (.aload_n 0, 1) := by decide +kernel
theorem dX8_settle_73 : decode cX8_settle 73 = .ok (.aload_n 0, 1) := by decide +kernel
theorem dX8_settle_74 : decode cX8_settle 74 = .ok (.getfield 50, 3) := by decide +kernel
theorem dX8_settle_77 : decode cX8_settle 77 = .ok (.iload_n 1, 1) := by decide +kernel
theorem dX8_settle_78 : decode cX8_settle 78 = .ok (.iaload, 1) := by decide +kernel
theorem dX8_settle_79 : decode cX8_settle 79 = .ok (.iconst 1, 1) := by decide +kernel
theorem dX8_settle_80 : decode cX8_settle 80 = .ok (.iadd, 1) := by decide +kernel
theorem dX8_settle_81 : decode cX8_settle 81 = .ok (.invokevirtual 191, 3) := by decide +kernel
theorem dX8_settle_84 : decode cX8_settle 84 = .ok (.i2l, 1) := by decide +kernel
theorem dX8_settle_85 : decode cX8_settle 85 = .ok (.lmul, 1) := by decide +kernel
theorem dX8_settle_86 : decode cX8_settle 86 = .ok (.lstore 8, 2) := by decide +kernel
theorem dX8_settle_88 : decode cX8_settle 88 = .ok (.iload_n 1, 1) := by decide +kernel
theorem dX8_settle_89 : decode cX8_settle 89 = .ok (.iconst 1, 1) := by decide +kernel
theorem dX8_settle_90 : decode cX8_settle 90 = .ok (.iadd, 1) := by decide +kernel
theorem dX8_settle_91 : decode cX8_settle 91 = .ok (.istore 10, 2) := by decide +kernel
theorem dX8_settle_93 : decode cX8_settle 93 = .ok (.iload 10, 2) := by decide +kernel
theorem dX8_settle_95 : decode cX8_settle 95 = .ok (.aload_n 0, 1) := by decide +kernel
theorem dX8_settle_96 : decode cX8_settle 96 = .ok (.getfield 41, 3) := by decide +kernel
theorem dX8_settle_99 : decode cX8_settle 99 = .ok (.if_icmp .ge 52, 3) := by decide +kernel
theorem dX8_settle_102 : decode cX8_settle 102 = .ok (.aload_n 0, 1) := by decide +kernel
theorem dX8_settle_103 : decode cX8_settle 103 = .ok (.getfield 44, 3) := by decide +kernel
theorem dX8_settle_106 : decode cX8_settle 106 = .ok (.iload 10, 2) := by decide +kernel
theorem dX8_settle_108 : decode cX8_settle 108 = .ok (.iaload, 1) := by decide +kernel
theorem dX8_settle_109 : decode cX8_settle 109 = .ok (.iload_n 1, 1) := by decide +kernel
theorem dX8_settle_110 : decode cX8_settle 110 = .ok (.if_icmp .ne 35, 3) := by decide +kernel
theorem dX8_settle_113 : decode cX8_settle 113 = .ok (.lload 8, 2) := by decide +kernel
theorem dX8_settle_115 : decode cX8_settle 115 = .ok (.aload_n 0, 1) := by decide +kernel
theorem dX8_settle_116 : decode cX8_settle 116 = .ok (.getfield 47, 3) := by decide +kernel
theorem dX8_settle_119 : decode cX8_settle 119 = .ok (.iload 10, 2) := by decide +kernel
theorem dX8_settle_121 : decode cX8_settle 121 = .ok (.iaload, 1) := by decide +kernel
theorem dX8_settle_122 : decode cX8_settle 122 = .ok (.i2l, 1) := by decide +kernel
theorem dX8_settle_123 : decode cX8_settle 123 = .ok (.aload_n 0, 1) := by decide +kernel
theorem dX8_settle_124 : decode cX8_settle 124 = .ok (.getfield 70, 3) := by decide +kernel
theorem dX8_settle_127 : decode cX8_settle 127 = .ok (.sipush 1000, 3) := by decide +kernel
theorem dX8_settle_130 : decode cX8_settle 130 = .ok (.iload 10, 2) := by decide +kernel
theorem dX8_settle_132 : decode cX8_settle 132 = .ok (.imul, 1) := by decide +kernel
theorem dX8_settle_133 : decode cX8_settle 133 = .ok (.aload_n 0, 1) := by decide +kernel
theorem dX8_settle_134 : decode cX8_settle 134 = .ok (.iload 10, 2) := by decide +kernel
theorem dX8_settle_136 : decode cX8_settle 136 = .ok (.invokevirtual 178, 3) := by decide +kernel
theorem dX8_settle_139 : decode cX8_settle 139 = .ok (.iadd, 1) := by decide +kernel
theorem dX8_settle_140 : decode cX8_settle 140 = .ok (.laload, 1) := by decide +kernel
theorem dX8_settle_141 : decode cX8_settle 141 = .ok (.lmul, 1) := by decide +kernel
theorem dX8_settle_142 : decode cX8_settle 142 = .ok (.ladd, 1) := by decide +kernel
theorem dX8_settle_143 : decode cX8_settle 143 = .ok (.lstore 8, 2) := by decide +kernel
theorem dX8_settle_145 : decode cX8_settle 145 = .ok (.iinc 10 1, 3) := by decide +kernel
theorem dX8_settle_148 : decode cX8_settle 148 = .ok (.goto (-55), 3) := by decide +kernel
theorem dX8_settle_151 : decode cX8_settle 151 = .ok (.iload 6, 2) := by decide +kernel
theorem dX8_settle_153 : decode cX8_settle 153 = .ok (.ifCond .ne 15, 3) := by decide +kernel
theorem dX8_settle_156 : decode cX8_settle 156 = .ok (.lload 8, 2) := by decide +kernel
theorem dX8_settle_158 : decode cX8_settle 158 = .ok (.aload_n 0, 1) := by decide +kernel
theorem dX8_settle_159 : decode cX8_settle 159 = .ok (.getfield 70, 3) := by decide +kernel
theorem dX8_settle_162 : decode cX8_settle 162 = .ok (.iload_n 3, 1) := by decide +kernel
theorem dX8_settle_163 : decode cX8_settle 163 = .ok (.laload, 1) := by decide +kernel
theorem dX8_settle_164 : decode cX8_settle 164 = .ok (.lcmp, 1) := by decide +kernel
theorem dX8_settle_165 : decode cX8_settle 165 = .ok (.ifCond .le 43, 3) := by decide +kernel
theorem dX8_settle_168 : decode cX8_settle 168 = .ok (.aload_n 0, 1) := by decide +kernel
theorem dX8_settle_169 : decode cX8_settle 169 = .ok (.getfield 70, 3) := by decide +kernel
theorem dX8_settle_172 : decode cX8_settle 172 = .ok (.iload_n 3, 1) := by decide +kernel
theorem dX8_settle_173 : decode cX8_settle 173 = .ok (.lload 8, 2) := by decide +kernel
theorem dX8_settle_175 : decode cX8_settle 175 = .ok (.lastore, 1) := by decide +kernel
theorem dX8_settle_176 : decode cX8_settle 176 = .ok (.aload_n 0, 1) := by decide +kernel
theorem dX8_settle_177 : decode cX8_settle 177 = .ok (.getfield 74, 3) := by decide +kernel
theorem dX8_settle_180 : decode cX8_settle 180 = .ok (.iload_n 3, 1) := by decide +kernel
theorem dX8_settle_181 : decode cX8_settle 181 = .ok (.aload_n 0, 1) := by decide +kernel
theorem dX8_settle_182 : decode cX8_settle 182 = .ok (.getfield 59, 3) := by decide +kernel
theorem dX8_settle_185 : decode cX8_settle 185 = .ok (.iconst 0, 1) := by decide +kernel
theorem dX8_settle_186 : decode cX8_settle 186 = .ok (.iaload, 1) := by decide +kernel
theorem dX8_settle_187 : decode cX8_settle 187 = .ok (.bipush 16, 2) := by decide +kernel
theorem dX8_settle_189 : decode cX8_settle 189 = .ok (.imul, 1) := by decide +kernel
theorem dX8_settle_190 : decode cX8_settle 190 = .ok (.aload_n 0, 1) := by decide +kernel
theorem dX8_settle_191 : decode cX8_settle 191 = .ok (.getfield 59, 3) := by decide +kernel
theorem dX8_settle_194 : decode cX8_settle 194 = .ok (.iconst 1, 1) := by decide +kernel
theorem dX8_settle_195 : decode cX8_settle 195 = .ok (.iaload, 1) := by decide +kernel
theorem dX8_settle_196 : decode cX8_settle 196 = .ok (.iadd, 1) := by decide +kernel
theorem dX8_settle_197 : decode cX8_settle 197 = .ok (.bipush 16, 2) := by decide +kernel
theorem dX8_settle_199 : decode cX8_settle 199 = .ok (.imul, 1) := by decide +kernel
theorem dX8_settle_200 : decode cX8_settle 200 = .ok (.aload_n 0, 1) := by decide +kernel
theorem dX8_settle_201 : decode cX8_settle 201 = .ok (.getfield 59, 3) := by decide +kernel
theorem dX8_settle_204 : decode cX8_settle 204 = .ok (.iconst 2, 1) := by decide +kernel
theorem dX8_settle_205 : decode cX8_settle 205 = .ok (.iaload, 1) := by decide +kernel
theorem dX8_settle_206 : decode cX8_settle 206 = .ok (.iadd, 1) := by decide +kernel
theorem dX8_settle_207 : decode cX8_settle 207 = .ok (.iastore, 1) := by decide +kernel
end
section
theorem dX8_settle_208 : decode cX8_settle 208 = .ok (.iconst 0, 1) := by decide +kernel
theorem dX8_settle_209 : decode cX8_settle 209 = .ok (.istore 6, 2) := by decide +kernel
theorem dX8_settle_211 : decode cX8_settle 211 = .ok (.aload_n 0, 1) := by decide +kernel
theorem dX8_settle_212 : decode cX8_settle 212 = .ok (.invokevirtual 181, 3) := by decide +kernel
theorem dX8_settle_215 : decode cX8_settle 215 = .ok (.istore 7, 2) := by decide +kernel
theorem dX8_settle_217 : decode cX8_settle 217 = .ok (.goto (-152), 3) := by decide +kernel
theorem dX8_settle_220 : decode cX8_settle 220 = .ok (.return_, 1) := by decide +kernel
theorem dX8_worthOf_0 : decode cX8_worthOf 0 = .ok (.aload_n 0, 1) := by decide +kernel
theorem dX8_worthOf_1 : decode cX8_worthOf 1 = .ok (.invokevirtual 194, 3) := by decide +kernel
theorem dX8_worthOf_4 : decode cX8_worthOf 4 = .ok (.aload_n 0, 1) := by decide +kernel
theorem dX8_worthOf_5 : decode cX8_worthOf 5 = .ok (.getfield 67, 3) := by decide +kernel
theorem dX8_worthOf_8 : decode cX8_worthOf 8 = .ok (.sipush 1000, 3) := by decide +kernel
theorem dX8_worthOf_11 : decode cX8_worthOf 11 = .ok (.iload_n 1, 1) := by decide +kernel
theorem dX8_worthOf_12 : decode cX8_worthOf 12 = .ok (.imul, 1) := by decide +kernel
theorem dX8_worthOf_13 : decode cX8_worthOf 13 = .ok (.iload_n 2, 1) := by decide +kernel
theorem dX8_worthOf_14 : decode cX8_worthOf 14 = .ok (.iadd, 1) := by decide +kernel
theorem dX8_worthOf_15 : decode cX8_worthOf 15 = .ok (.iconst 1, 1) := by decide +kernel
theorem dX8_worthOf_16 : decode cX8_worthOf 16 = .ok (.bastore, 1) := by decide +kernel
theorem dX8_worthOf_17 : decode cX8_worthOf 17 = .ok (.aload_n 0, 1) := by decide +kernel
theorem dX8_worthOf_18 : decode cX8_worthOf 18 = .ok (.iload_n 1, 1) := by decide +kernel
theorem dX8_worthOf_19 : decode cX8_worthOf 19 = .ok (.invokevirtual 197, 3) := by decide +kernel
theorem dX8_worthOf_22 : decode cX8_worthOf 22 = .ok (.aload_n 0, 1) := by decide +kernel
theorem dX8_worthOf_23 : decode cX8_worthOf 23 = .ok (.getfield 70, 3) := by decide +kernel
theorem dX8_worthOf_26 : decode cX8_worthOf 26 = .ok (.sipush 1000, 3) := by decide +kernel
theorem dX8_worthOf_29 : decode cX8_worthOf 29 = .ok (.iload_n 1, 1) := by decide +kernel
theorem dX8_worthOf_30 : decode cX8_worthOf 30 = .ok (.imul, 1) := by decide +kernel
theorem dX8_worthOf_31 : decode cX8_worthOf 31 = .ok (.iload_n 2, 1) := by decide +kernel
theorem dX8_worthOf_32 : decode cX8_worthOf 32 = .ok (.iadd, 1) := by decide +kernel
theorem dX8_worthOf_33 : decode cX8_worthOf 33 = .ok (.laload, 1) := by decide +kernel
theorem dX8_worthOf_34 : decode cX8_worthOf 34 = .ok (.lreturn, 1) := by decide +kernel
theorem dX8_worth_0 : decode cX8_worth 0 = .ok (.aload_n 0, 1) := by decide +kernel
theorem dX8_worth_1 : decode cX8_worth 1 = .ok (.iload_n 1, 1) := by decide +kernel
theorem dX8_worth_2 : decode cX8_worth 2 = .ok (.invokevirtual 144, 3) := by decide +kernel
theorem dX8_worth_5 : decode cX8_worth 5 = .ok (.ifCond .eq 18, 3) := by decide +kernel
theorem dX8_worth_8 : decode cX8_worth 8 = .ok (.aload_n 0, 1) := by decide +kernel
theorem dX8_worth_9 : decode cX8_worth 9 = .ok (.iload_n 2, 1) := by decide +kernel
theorem dX8_worth_10 : decode cX8_worth 10 = .ok (.invokevirtual 200, 3) := by decide +kernel
theorem dX8_worth_13 : decode cX8_worth 13 = .ok (.ifCond .eq 10, 3) := by decide +kernel
theorem dX8_worth_16 : decode cX8_worth 16 = .ok (.aload_n 0, 1) := by decide +kernel
theorem dX8_worth_17 : decode cX8_worth 17 = .ok (.invokevirtual 151, 3) := by decide +kernel
theorem dX8_worth_20 : decode cX8_worth 20 = .ok (.ifCond .ne 9, 3) := by decide +kernel
theorem dX8_worth_23 : decode cX8_worth 23 = .ok (.ldc2_w 203, 3) := by decide +kernel
theorem dX8_worth_26 : decode cX8_worth 26 = .ok (.goto 9, 3) := by decide +kernel
theorem dX8_worth_29 : decode cX8_worth 29 = .ok (.aload_n 0, 1) := by decide +kernel
theorem dX8_worth_30 : decode cX8_worth 30 = .ok (.iload_n 1, 1) := by decide +kernel
theorem dX8_worth_31 : decode cX8_worth 31 = .ok (.iload_n 2, 1) := by decide +kernel
theorem dX8_worth_32 : decode cX8_worth 32 = .ok (.invokevirtual 205, 3) := by decide +kernel
theorem dX8_worth_35 : decode cX8_worth 35 = .ok (.lreturn, 1) := by decide +kernel
theorem dX8_bestLet_0 : decode cX8_bestLet 0 = .ok (.aload_n 0, 1) := by decide +kernel
theorem dX8_bestLet_1 : decode cX8_bestLet 1 = .ok (.iload_n 1, 1) := by decide +kernel
theorem dX8_bestLet_2 : decode cX8_bestLet 2 = .ok (.iload_n 2, 1) := by decide +kernel
theorem dX8_bestLet_3 : decode cX8_bestLet 3 = .ok (.invokevirtual 205, 3) := by decide +kernel
theorem dX8_bestLet_6 : decode cX8_bestLet 6 = .ok (.lstore_n 3, 1) := by decide +kernel
theorem dX8_bestLet_7 : decode cX8_bestLet 7 = .ok (.aload_n 0, 1) := by decide +kernel
theorem dX8_bestLet_8 : decode cX8_bestLet 8 = .ok (.getfield 74, 3) := by decide +kernel
theorem dX8_bestLet_11 : decode cX8_bestLet 11 = .ok (.sipush 1000, 3) := by decide +kernel
theorem dX8_bestLet_14 : decode cX8_bestLet 14 = .ok (.iload_n 1, 1) := by decide +kernel
theorem dX8_bestLet_15 : decode cX8_bestLet 15 = .ok (.imul, 1) := by decide +kernel
theorem dX8_bestLet_16 : decode cX8_bestLet 16 = .ok (.iload_n 2, 1) := by decide +kernel
theorem dX8_bestLet_17 : decode cX8_bestLet 17 = .ok (.iadd, 1) := by decide +kernel
theorem dX8_bestLet_18 : decode cX8_bestLet 18 = .ok (.iaload, 1) := by decide +kernel
theorem dX8_bestLet_19 : decode cX8_bestLet 19 = .ok (.istore 5, 2) := by decide +kernel
theorem dX8_bestLet_21 : decode cX8_bestLet 21 = .ok (.aload_n 0, 1) := by decide +kernel
theorem dX8_bestLet_22 : decode cX8_bestLet 22 = .ok (.getfield 59, 3) := by decide +kernel
theorem dX8_bestLet_25 : decode cX8_bestLet 25 = .ok (.iconst 0, 1) := by decide +kernel
theorem dX8_bestLet_26 : decode cX8_bestLet 26 = .ok (.iload 5, 2) := by decide +kernel
theorem dX8_bestLet_28 : decode cX8_bestLet 28 = .ok (.bipush 8, 2) := by decide +kernel
theorem dX8_bestLet_30 : decode cX8_bestLet 30 = .ok (.ishr, 1) := by decide +kernel
theorem dX8_bestLet_31 : decode cX8_bestLet 31 = .ok (.iastore, 1) := by decide +kernel
theorem dX8_bestLet_32 : decode cX8_bestLet 32 = .ok (.aload_n 0, 1) := by decide +kernel
theorem dX8_bestLet_33 : decode cX8_bestLet 33 = .ok (.getfield 59, 3) := by decide +kernel
theorem dX8_bestLet_36 : decode cX8_bestLet 36 = .ok (.iconst 1, 1) := by decide +kernel
theorem dX8_bestLet_37 : decode cX8_bestLet 37 = .ok (.iload 5, 2) := by decide +kernel
theorem dX8_bestLet_39 : decode cX8_bestLet 39 = .ok (.iconst 4, 1) := by decide +kernel
theorem dX8_bestLet_40 : decode cX8_bestLet 40 = .ok (.ishr, 1) := by decide +kernel
theorem dX8_bestLet_41 : decode cX8_bestLet 41 = .ok (.bipush 15, 2) := by decide +kernel
theorem dX8_bestLet_43 : decode cX8_bestLet 43 = .ok (.iand, 1) := by decide +kernel
theorem dX8_bestLet_44 : decode cX8_bestLet 44 = .ok (.iastore, 1) := by decide +kernel
theorem dX8_bestLet_45 : decode cX8_bestLet 45 = .ok (.aload_n 0, 1) := by decide +kernel
theorem dX8_bestLet_46 : decode cX8_bestLet 46 = .ok (.getfield 59, 3) := by decide +kernel
theorem dX8_bestLet_49 : decode cX8_bestLet 49 = .ok (.iconst 2, 1) := by decide +kernel
theorem dX8_bestLet_50 : decode cX8_bestLet 50 = .ok (.iload 5, 2) := by decide +kernel
theorem dX8_bestLet_52 : decode cX8_bestLet 52 = .ok (.bipush 15, 2) := by decide +kernel
theorem dX8_bestLet_54 : decode cX8_bestLet 54 = .ok (.iand, 1) := by decide +kernel
theorem dX8_bestLet_55 : decode cX8_bestLet 55 = .ok (.iastore, 1) := by decide +kernel
theorem dX8_bestLet_56 : decode cX8_bestLet 56 = .ok (.return_, 1) := by decide +kernel
theorem dX8_policy_0 : decode cX8_policy 0 = .ok (.aload_n 0, 1) := by decide +kernel
theorem dX8_policy_1 : decode cX8_policy 1 = .ok (.iload_n 1, 1) := by decide +kernel
theorem dX8_policy_2 : decode cX8_policy 2 = .ok (.invokevirtual 144, 3) := by decide +kernel
theorem dX8_policy_5 : decode cX8_policy 5 = .ok (.ifCond .eq 19, 3) := by decide +kernel
theorem dX8_policy_8 : decode cX8_policy 8 = .ok (.aload_n 0, 1) := by decide +kernel
theorem dX8_policy_9 : decode cX8_policy 9 = .ok (.iload_n 2, 1) := by decide +kernel
theorem dX8_policy_10 : decode cX8_policy 10 = .ok (.invokevirtual 200, 3) := by decide +kernel
theorem dX8_policy_13 : decode cX8_policy 13 = .ok (.ifCond .eq 11, 3) := by decide +kernel
theorem dX8_policy_16 : decode cX8_policy 16 = .ok (.aload_n 0, 1) := by decide +kernel
theorem dX8_policy_17 : decode cX8_policy 17 = .ok (.iload_n 3, 1) := by decide +kernel
theorem dX8_policy_18 : decode cX8_policy 18 = .ok (.invokevirtual 140, 3) := by decide +kernel
theorem dX8_policy_21 : decode cX8_policy 21 = .ok (.ifCond .ne 5, 3) := by decide +kernel
theorem dX8_policy_24 : decode cX8_policy 24 = .ok (.iconst (-1), 1) := by decide +kernel
theorem dX8_policy_25 : decode cX8_policy 25 = .ok (.ireturn, 1) := by decide +kernel
theorem dX8_policy_26 : decode cX8_policy 26 = .ok (.aload_n 0, 1) := by decide +kernel
theorem dX8_policy_27 : decode cX8_policy 27 = .ok (.invokevirtual 151, 3) := by decide +kernel
theorem dX8_policy_30 : decode cX8_policy 30 = .ok (.ifCond .ne 6, 3) := by decide +kernel
theorem dX8_policy_33 : decode cX8_policy 33 = .ok (.bipush (-3), 2) := by decide +kernel
theorem dX8_policy_35 : decode cX8_policy 35 = .ok (.ireturn, 1) := by decide +kernel
theorem dX8_policy_36 : decode cX8_policy 36 = .ok (.aload_n 0, 1) := by decide +kernel
theorem dX8_policy_37 : decode cX8_policy 37 = .ok (.getfield 50, 3) := by decide +kernel
theorem dX8_policy_40 : decode cX8_policy 40 = .ok (.iload_n 1, 1) := by decide +kernel
theorem dX8_policy_41 : decode cX8_policy 41 = .ok (.iaload, 1) := by decide +kernel
theorem dX8_policy_42 : decode cX8_policy 42 = .ok (.aload_n 0, 1) := by decide +kernel
theorem dX8_policy_43 : decode cX8_policy 43 = .ok (.getfield 32, 3) := by decide +kernel
theorem dX8_policy_46 : decode cX8_policy 46 = .ok (.iconst 1, 1) := by decide +kernel
theorem dX8_policy_47 : decode cX8_policy 47 = .ok (.isub, 1) := by decide +kernel
theorem dX8_policy_48 : decode cX8_policy 48 = .ok (.if_icmp .ne 6, 3) := by decide +kernel
theorem dX8_policy_51 : decode cX8_policy 51 = .ok (.bipush (-4), 2) := by decide +kernel
theorem dX8_policy_53 : decode cX8_policy 53 = .ok (.ireturn, 1) := by decide +kernel
theorem dX8_policy_54 : decode cX8_policy 54 = .ok (.aload_n 0, 1) := by decide +kernel
theorem dX8_policy_55 : decode cX8_policy 55 = .ok (.iload_n 1, 1) := by decide +kernel
theorem dX8_policy_56 : decode cX8_policy 56 = .ok (.iload_n 2, 1) := by decide +kernel
theorem dX8_policy_57 : decode cX8_policy 57 = .ok (.invokevirtual 209, 3) := by decide +kernel
theorem dX8_policy_60 : decode cX8_policy 60 = .ok (.aload_n 0, 1) := by decide +kernel
theorem dX8_policy_61 : decode cX8_policy 61 = .ok (.getfield 59, 3) := by decide +kernel
theorem dX8_policy_64 : decode cX8_policy 64 = .ok (.iload_n 3, 1) := by decide +kernel
theorem dX8_policy_65 : decode cX8_policy 65 = .ok (.iaload, 1) := by decide +kernel
theorem dX8_policy_66 : decode cX8_policy 66 = .ok (.ireturn, 1) := by decide +kernel
theorem dX8_unit_0 : decode cX8_unit 0 = .ok (.iconst 1, 1) := by decide +kernel
theorem dX8_unit_1 : decode cX8_unit 1 = .ok (.istore_n 2, 1) := by decide +kernel
theorem dX8_unit_2 : decode cX8_unit 2 = .ok (.iload_n 1, 1) := by decide +kernel
theorem dX8_unit_3 : decode cX8_unit 3 = .ok (.iconst 1, 1) := by decide +kernel
theorem dX8_unit_4 : decode cX8_unit 4 = .ok (.iadd, 1) := by decide +kernel
theorem dX8_unit_5 : decode cX8_unit 5 = .ok (.istore_n 3, 1) := by decide +kernel
theorem dX8_unit_6 : decode cX8_unit 6 = .ok (.iload_n 3, 1) := by decide +kernel
theorem dX8_unit_7 : decode cX8_unit 7 = .ok (.aload_n 0, 1) := by decide +kernel
theorem dX8_unit_8 : decode cX8_unit 8 = .ok (.getfield 119, 3) := by decide +kernel
theorem dX8_unit_11 : decode cX8_unit 11 = .ok (.if_icmp .ge 20, 3) := by decide +kernel
theorem dX8_unit_14 : decode cX8_unit 14 = .ok (.iload_n 2, 1) := by decide +kernel
theorem dX8_unit_15 : decode cX8_unit 15 = .ok (.aload_n 0, 1) := by decide +kernel
theorem dX8_unit_16 : decode cX8_unit 16 = .ok (.getfield 17, 3) := by decide +kernel
theorem dX8_unit_19 : decode cX8_unit 19 = .ok (.iload_n 3, 1) := by decide +kernel
theorem dX8_unit_20 : decode cX8_unit 20 = .ok (.iaload, 1) := by decide +kernel
theorem dX8_unit_21 : decode cX8_unit 21 = .ok (.iconst 1, 1) := by decide +kernel
theorem dX8_unit_22 : decode cX8_unit 22 = .ok (.iadd, 1) := by decide +kernel
theorem dX8_unit_23 : decode cX8_unit 23 = .ok (.imul, 1) := by decide +kernel
theorem dX8_unit_24 : decode cX8_unit 24 = .ok (.istore_n 2, 1) := by decide +kernel
theorem dX8_unit_25 : decode cX8_unit 25 = .ok (.iinc 3 1, 3) := by decide +kernel
theorem dX8_unit_28 : decode cX8_unit 28 = .ok (.goto (-22), 3) := by decide +kernel
theorem dX8_unit_31 : decode cX8_unit 31 = .ok (.iload_n 2, 1) := by decide +kernel
theorem dX8_unit_32 : decode cX8_unit 32 = .ok (.ireturn, 1) := by decide +kernel
theorem dX8_water_0 : decode cX8_water 0 = .ok (.aload_n 0, 1) := by decide +kernel
theorem dX8_water_1 : decode cX8_water 1 = .ok (.iload_n 1, 1) := by decide +kernel
theorem dX8_water_2 : decode cX8_water 2 = .ok (.invokevirtual 144, 3) := by decide +kernel
theorem dX8_water_5 : decode cX8_water 5 = .ok (.ifCond .eq 19, 3) := by decide +kernel
theorem dX8_water_8 : decode cX8_water 8 = .ok (.aload_n 0, 1) := by decide +kernel
theorem dX8_water_9 : decode cX8_water 9 = .ok (.iload_n 2, 1) := by decide +kernel
theorem dX8_water_10 : decode cX8_water 10 = .ok (.invokevirtual 200, 3) := by decide +kernel
theorem dX8_water_13 : decode cX8_water 13 = .ok (.ifCond .eq 11, 3) := by decide +kernel
theorem dX8_water_16 : decode cX8_water 16 = .ok (.aload_n 0, 1) := by decide +kernel
theorem dX8_water_17 : decode cX8_water 17 = .ok (.iload_n 3, 1) := by decide +kernel
theorem dX8_water_18 : decode cX8_water 18 = .ok (.invokevirtual 140, 3) := by decide +kernel
theorem dX8_water_21 : decode cX8_water 21 = .ok (.ifCond .ne 7, 3) := by decide +kernel
theorem dX8_water_24 : decode cX8_water 24 = .ok (.ldc2_w 203, 3) := by decide +kernel
theorem dX8_water_27 : decode cX8_water 27 = .ok (.lreturn, 1) := by decide +kernel
theorem dX8_water_28 : decode cX8_water 28 = .ok (.aload_n 0, 1) := by decide +kernel
theorem dX8_water_29 : decode cX8_water 29 = .ok (.iload_n 2, 1) := by decide +kernel
theorem dX8_water_30 : decode cX8_water 30 = .ok (.invokevirtual 164, 3) := by decide +kernel
theorem dX8_water_33 : decode cX8_water 33 = .ok (.aload_n 0, 1) := by decide +kernel
theorem dX8_water_34 : decode cX8_water 34 = .ok (.getfield 56, 3) := by decide +kernel
theorem dX8_water_37 : decode cX8_water 37 = .ok (.iload_n 3, 1) := by decide +kernel
theorem dX8_water_38 : decode cX8_water 38 = .ok (.iaload, 1) := by decide +kernel
theorem dX8_water_39 : decode cX8_water 39 = .ok (.aload_n 0, 1) := by decide +kernel
theorem dX8_water_40 : decode cX8_water 40 = .ok (.getfield 17, 3) := by decide +kernel
theorem dX8_water_43 : decode cX8_water 43 = .ok (.iload_n 3, 1) := by decide +kernel
theorem dX8_water_44 : decode cX8_water 44 = .ok (.iaload, 1) := by decide +kernel
theorem dX8_water_45 : decode cX8_water 45 = .ok (.if_icmp .eq 10, 3) := by decide +kernel
theorem dX8_water_48 : decode cX8_water 48 = .ok (.aload_n 0, 1) := by decide +kernel
theorem dX8_water_49 : decode cX8_water 49 = .ok (.invokevirtual 151, 3) := by decide +kernel
theorem dX8_water_52 : decode cX8_water 52 = .ok (.ifCond .ne 7, 3) := by decide +kernel
theorem dX8_water_55 : decode cX8_water 55 = .ok (.ldc2_w 203, 3) := by decide +kernel
theorem dX8_water_58 : decode cX8_water 58 = .ok (.lreturn, 1) := by decide +kernel
theorem dX8_water_59 : decode cX8_water 59 = .ok (.aload_n 0, 1) := by decide +kernel
theorem dX8_water_60 : decode cX8_water 60 = .ok (.iload_n 1, 1) := by decide +kernel
theorem dX8_water_61 : decode cX8_water 61 = .ok (.iload_n 2, 1) := by decide +kernel
theorem dX8_water_62 : decode cX8_water 62 = .ok (.aload_n 0, 1) := by decide +kernel
theorem dX8_water_63 : decode cX8_water 63 = .ok (.iload_n 3, 1) := by decide +kernel
theorem dX8_water_64 : decode cX8_water 64 = .ok (.invokevirtual 212, 3) := by decide +kernel
theorem dX8_water_67 : decode cX8_water 67 = .ok (.iadd, 1) := by decide +kernel
theorem dX8_water_68 : decode cX8_water 68 = .ok (.invokevirtual 205, 3) := by decide +kernel
theorem dX8_water_71 : decode cX8_water 71 = .ok (.aload_n 0, 1) := by decide +kernel
theorem dX8_water_72 : decode cX8_water 72 = .ok (.iload_n 1, 1) := by decide +kernel
theorem dX8_water_73 : decode cX8_water 73 = .ok (.iload_n 2, 1) := by decide +kernel
theorem dX8_water_74 : decode cX8_water 74 = .ok (.invokevirtual 205, 3) := by decide +kernel
theorem dX8_water_77 : decode cX8_water 77 = .ok (.lsub, 1) := by decide +kernel
theorem dX8_water_78 : decode cX8_water 78 = .ok (.lreturn, 1) := by decide +kernel
theorem dX8_needs_0 : decode cX8_needs 0 = .ok (.aload_n 0, 1) := by decide +kernel
theorem dX8_needs_1 : decode cX8_needs 1 = .ok (.iload_n 1, 1) := by decide +kernel
theorem dX8_needs_2 : decode cX8_needs 2 = .ok (.invokevirtual 144, 3) := by decide +kernel
theorem dX8_needs_5 : decode cX8_needs 5 = .ok (.ifCond .ne 5, 3) := by decide +kernel
theorem dX8_needs_8 : decode cX8_needs 8 = .ok (.iconst (-1), 1) := by decide +kernel
theorem dX8_needs_9 : decode cX8_needs 9 = .ok (.ireturn, 1) := by decide +kernel
theorem dX8_needs_10 : decode cX8_needs 10 = .ok (.aload_n 0, 1) := by decide +kernel
theorem dX8_needs_11 : decode cX8_needs 11 = .ok (.invokevirtual 151, 3) := by decide +kernel
theorem dX8_needs_14 : decode cX8_needs 14 = .ok (.ifCond .ne 6, 3) := by decide +kernel
theorem dX8_needs_17 : decode cX8_needs 17 = .ok (.bipush (-3), 2) := by decide +kernel
theorem dX8_needs_19 : decode cX8_needs 19 = .ok (.ireturn, 1) := by decide +kernel
theorem dX8_needs_20 : decode cX8_needs 20 = .ok (.aload_n 0, 1) := by decide +kernel
theorem dX8_needs_21 : decode cX8_needs 21 = .ok (.invokevirtual 194, 3) := by decide +kernel
theorem dX8_needs_24 : decode cX8_needs 24 = .ok (.iconst 0, 1) := by decide +kernel
theorem dX8_needs_25 : decode cX8_needs 25 = .ok (.istore 4, 2) := by decide +kernel
theorem dX8_needs_27 : decode cX8_needs 27 = .ok (.iload 4, 2) := by decide +kernel
theorem dX8_needs_29 : decode cX8_needs 29 = .ok (.aload_n 0, 1) := by decide +kernel
theorem dX8_needs_30 : decode cX8_needs 30 = .ok (.invokevirtual 126, 3) := by decide +kernel
theorem dX8_needs_33 : decode cX8_needs 33 = .ok (.if_icmp .ge 23, 3) := by decide +kernel
theorem dX8_needs_36 : decode cX8_needs 36 = .ok (.aload_n 0, 1) := by decide +kernel
theorem dX8_needs_37 : decode cX8_needs 37 = .ok (.getfield 67, 3) := by decide +kernel
theorem dX8_needs_40 : decode cX8_needs 40 = .ok (.sipush 1000, 3) := by decide +kernel
theorem dX8_needs_43 : decode cX8_needs 43 = .ok (.iload_n 1, 1) := by decide +kernel
theorem dX8_needs_44 : decode cX8_needs 44 = .ok (.imul, 1) := by decide +kernel
theorem dX8_needs_45 : decode cX8_needs 45 = .ok (.iload 4, 2) := by decide +kernel
theorem dX8_needs_47 : decode cX8_needs 47 = .ok (.iadd, 1) := by decide +kernel
theorem dX8_needs_48 : decode cX8_needs 48 = .ok (.iconst 1, 1) := by decide +kernel
theorem dX8_needs_49 : decode cX8_needs 49 = .ok (.bastore, 1) := by decide +kernel
theorem dX8_needs_50 : decode cX8_needs 50 = .ok (.iinc 4 1, 3) := by decide +kernel
theorem dX8_needs_53 : decode cX8_needs 53 = .ok (.goto (-26), 3) := by decide +kernel
theorem dX8_needs_56 : decode cX8_needs 56 = .ok (.aload_n 0, 1) := by decide +kernel
theorem dX8_needs_57 : decode cX8_needs 57 = .ok (.iload_n 1, 1) := by decide +kernel
theorem dX8_needs_58 : decode cX8_needs 58 = .ok (.invokevirtual 197, 3) := by decide +kernel
theorem dX8_needs_61 : decode cX8_needs 61 = .ok (.bipush (-6), 2) := by decide +kernel
theorem dX8_needs_63 : decode cX8_needs 63 = .ok (.istore 4, 2) := by decide +kernel
theorem dX8_needs_65 : decode cX8_needs 65 = .ok (.iconst 0, 1) := by decide +kernel
theorem dX8_needs_66 : decode cX8_needs 66 = .ok (.istore 5, 2) := by decide +kernel
theorem dX8_needs_68 : decode cX8_needs 68 = .ok (.iconst 0, 1) := by decide +kernel
theorem dX8_needs_69 : decode cX8_needs 69 = .ok (.istore 6, 2) := by decide +kernel
theorem dX8_needs_71 : decode cX8_needs 71 = .ok (.iload 6, 2) := by decide +kernel
theorem dX8_needs_73 : decode cX8_needs 73 = .ok (.aload_n 0, 1) := by decide +kernel
theorem dX8_needs_74 : decode cX8_needs 74 = .ok (.invokevirtual 126, 3) := by decide +kernel
theorem dX8_needs_77 : decode cX8_needs 77 = .ok (.if_icmp .ge 92, 3) := by decide +kernel
theorem dX8_needs_80 : decode cX8_needs 80 = .ok (.aload_n 0, 1) := by decide +kernel
theorem dX8_needs_81 : decode cX8_needs 81 = .ok (.getfield 70, 3) := by decide +kernel
theorem dX8_needs_84 : decode cX8_needs 84 = .ok (.sipush 1000, 3) := by decide +kernel
theorem dX8_needs_87 : decode cX8_needs 87 = .ok (.iload_n 1, 1) := by decide +kernel
theorem dX8_needs_88 : decode cX8_needs 88 = .ok (.imul, 1) := by decide +kernel
theorem dX8_needs_89 : decode cX8_needs 89 = .ok (.iload 6, 2) := by decide +kernel
theorem dX8_needs_91 : decode cX8_needs 91 = .ok (.iadd, 1) := by decide +kernel
theorem dX8_needs_92 : decode cX8_needs 92 = .ok (.laload, 1) := by decide +kernel
theorem dX8_needs_93 : decode cX8_needs 93 = .ok (.lload_n 2, 1) := by decide +kernel
theorem dX8_needs_94 : decode cX8_needs 94 = .ok (.lcmp, 1) := by decide +kernel
theorem dX8_needs_95 : decode cX8_needs 95 = .ok (.ifCond .ge 6, 3) := by decide +kernel
theorem dX8_needs_98 : decode cX8_needs 98 = .ok (.goto 65, 3) := by decide +kernel
theorem dX8_needs_101 : decode cX8_needs 101 = .ok (.aload_n 0, 1) := by decide +kernel
theorem dX8_needs_102 : decode cX8_needs 102 = .ok (.iload 6, 2) := by decide +kernel
theorem dX8_needs_104 : decode cX8_needs 104 = .ok (.invokevirtual 164, 3) := by decide +kernel
theorem dX8_needs_107 : decode cX8_needs 107 = .ok (.iconst 0, 1) := by decide +kernel
theorem dX8_needs_108 : decode cX8_needs 108 = .ok (.istore 7, 2) := by decide +kernel
theorem dX8_needs_110 : decode cX8_needs 110 = .ok (.iconst 0, 1) := by decide +kernel
theorem dX8_needs_111 : decode cX8_needs 111 = .ok (.istore 8, 2) := by decide +kernel
theorem dX8_needs_113 : decode cX8_needs 113 = .ok (.iload 8, 2) := by decide +kernel
theorem dX8_needs_115 : decode cX8_needs 115 = .ok (.aload_n 0, 1) := by decide +kernel
theorem dX8_needs_116 : decode cX8_needs 116 = .ok (.getfield 119, 3) := by decide +kernel
theorem dX8_needs_119 : decode cX8_needs 119 = .ok (.if_icmp .ge 21, 3) := by decide +kernel
theorem dX8_needs_122 : decode cX8_needs 122 = .ok (.iload 7, 2) := by decide +kernel
theorem dX8_needs_124 : decode cX8_needs 124 = .ok (.aload_n 0, 1) := by decide +kernel
theorem dX8_needs_125 : decode cX8_needs 125 = .ok (.getfield 56, 3) := by decide +kernel
theorem dX8_needs_128 : decode cX8_needs 128 = .ok (.iload 8, 2) := by decide +kernel
theorem dX8_needs_130 : decode cX8_needs 130 = .ok (.iaload, 1) := by decide +kernel
theorem dX8_needs_131 : decode cX8_needs 131 = .ok (.iadd, 1) := by decide +kernel
theorem dX8_needs_132 : decode cX8_needs 132 = .ok (.istore 7, 2) := by decide +kernel
theorem dX8_needs_134 : decode cX8_needs 134 = .ok (.iinc 8 1, 3) := by decide +kernel
theorem dX8_needs_137 : decode cX8_needs 137 = .ok (.goto (-24), 3) := by decide +kernel
theorem dX8_needs_140 : decode cX8_needs 140 = .ok (.iload 4, 2) := by decide +kernel
theorem dX8_needs_142 : decode cX8_needs 142 = .ok (.ifCond .lt 13, 3) := by decide +kernel
theorem dX8_needs_145 : decode cX8_needs 145 = .ok (.iload 7, 2) := by decide +kernel
theorem dX8_needs_147 : decode cX8_needs 147 = .ok (.iload 5, 2) := by decide +kernel
theorem dX8_needs_149 : decode cX8_needs 149 = .ok (.if_icmp .lt 6, 3) := by decide +kernel
theorem dX8_needs_152 : decode cX8_needs 152 = .ok (.goto 11, 3) := by decide +kernel
theorem dX8_needs_155 : decode cX8_needs 155 = .ok (.iload 6, 2) := by decide +kernel
theorem dX8_needs_157 : decode cX8_needs 157 = .ok (.istore 4, 2) := by decide +kernel
theorem dX8_needs_159 : decode cX8_needs 159 = .ok (.iload 7, 2) := by decide +kernel
theorem dX8_needs_161 : decode cX8_needs 161 = .ok (.istore 5, 2) := by decide +kernel
theorem dX8_needs_163 : decode cX8_needs 163 = .ok (.iinc 6 1, 3) := by decide +kernel
theorem dX8_needs_166 : decode cX8_needs 166 = .ok (.goto (-95), 3) := by decide +kernel
theorem dX8_needs_169 : decode cX8_needs 169 = .ok (.iload 4, 2) := by decide +kernel
theorem dX8_needs_171 : decode cX8_needs 171 = .ok (.ireturn, 1) := by decide +kernel
theorem dX8_rule_0 : decode cX8_rule 0 = .ok (.aload_n 0, 1) := by decide +kernel
theorem dX8_rule_1 : decode cX8_rule 1 = .ok (.iload_n 1, 1) := by decide +kernel
theorem dX8_rule_2 : decode cX8_rule 2 = .ok (.invokevirtual 140, 3) := by decide +kernel
theorem dX8_rule_5 : decode cX8_rule 5 = .ok (.ifCond .eq 23, 3) := by decide +kernel
theorem dX8_rule_8 : decode cX8_rule 8 = .ok (.iload_n 2, 1) := by decide +kernel
theorem dX8_rule_9 : decode cX8_rule 9 = .ok (.iconst 0, 1) := by decide +kernel
theorem dX8_rule_10 : decode cX8_rule 10 = .ok (.bipush 30, 2) := by decide +kernel
theorem dX8_rule_12 : decode cX8_rule 12 = .ok (.invokestatic 122, 3) := by decide +kernel
theorem dX8_rule_15 : decode cX8_rule 15 = .ok (.ifCond .eq 13, 3) := by decide +kernel
theorem dX8_rule_18 : decode cX8_rule 18 = .ok (.iload_n 3, 1) := by decide +kernel
theorem dX8_rule_19 : decode cX8_rule 19 = .ok (.iconst 0, 1) := by decide +kernel
theorem dX8_rule_20 : decode cX8_rule 20 = .ok (.bipush 30, 2) := by decide +kernel
theorem dX8_rule_22 : decode cX8_rule 22 = .ok (.invokestatic 122, 3) := by decide +kernel
theorem dX8_rule_25 : decode cX8_rule 25 = .ok (.ifCond .ne 5, 3) := by decide +kernel
theorem dX8_rule_28 : decode cX8_rule 28 = .ok (.iconst (-1), 1) := by decide +kernel
theorem dX8_rule_29 : decode cX8_rule 29 = .ok (.ireturn, 1) := by decide +kernel
theorem dX8_rule_30 : decode cX8_rule 30 = .ok (.aload_n 0, 1) := by decide +kernel
theorem dX8_rule_31 : decode cX8_rule 31 = .ok (.getfield 77, 3) := by decide +kernel
theorem dX8_rule_34 : decode cX8_rule 34 = .ok (.iload_n 1, 1) := by decide +kernel
theorem dX8_rule_35 : decode cX8_rule 35 = .ok (.iload_n 2, 1) := by decide +kernel
theorem dX8_rule_36 : decode cX8_rule 36 = .ok (.iastore, 1) := by decide +kernel
theorem dX8_rule_37 : decode cX8_rule 37 = .ok (.aload_n 0, 1) := by decide +kernel
theorem dX8_rule_38 : decode cX8_rule 38 = .ok (.getfield 80, 3) := by decide +kernel
theorem dX8_rule_41 : decode cX8_rule 41 = .ok (.iload_n 1, 1) := by decide +kernel
theorem dX8_rule_42 : decode cX8_rule 42 = .ok (.iload_n 3, 1) := by decide +kernel
theorem dX8_rule_43 : decode cX8_rule 43 = .ok (.iastore, 1) := by decide +kernel
theorem dX8_rule_44 : decode cX8_rule 44 = .ok (.iconst 1, 1) := by decide +kernel
theorem dX8_rule_45 : decode cX8_rule 45 = .ok (.ireturn, 1) := by decide +kernel
theorem dX8_ruledLet_0 : decode cX8_ruledLet 0 = .ok (.iconst 0, 1) := by decide +kernel
theorem dX8_ruledLet_1 : decode cX8_ruledLet 1 = .ok (.istore_n 1, 1) := by decide +kernel
theorem dX8_ruledLet_2 : decode cX8_ruledLet 2 = .ok (.iload_n 1, 1) := by decide +kernel
theorem dX8_ruledLet_3 : decode cX8_ruledLet 3 = .ok (.aload_n 0, 1) := by decide +kernel
theorem dX8_ruledLet_4 : decode cX8_ruledLet 4 = .ok (.getfield 119, 3) := by decide +kernel
theorem dX8_ruledLet_7 : decode cX8_ruledLet 7 = .ok (.if_icmp .ge 93, 3) := by decide +kernel
theorem dX8_ruledLet_10 : decode cX8_ruledLet 10 = .ok (.aload_n 0, 1) := by decide +kernel
theorem dX8_ruledLet_11 : decode cX8_ruledLet 11 = .ok (.getfield 56, 3) := by decide +kernel
theorem dX8_ruledLet_14 : decode cX8_ruledLet 14 = .ok (.iload_n 1, 1) := by decide +kernel
theorem dX8_ruledLet_15 : decode cX8_ruledLet 15 = .ok (.iaload, 1) := by decide +kernel
theorem dX8_ruledLet_16 : decode cX8_ruledLet 16 = .ok (.aload_n 0, 1) := by decide +kernel
theorem dX8_ruledLet_17 : decode cX8_ruledLet 17 = .ok (.getfield 77, 3) := by decide +kernel
theorem dX8_ruledLet_20 : decode cX8_ruledLet 20 = .ok (.iload_n 1, 1) := by decide +kernel
theorem dX8_ruledLet_21 : decode cX8_ruledLet 21 = .ok (.iaload, 1) := by decide +kernel
theorem dX8_ruledLet_22 : decode cX8_ruledLet 22 = .ok (.isub, 1) := by decide +kernel
theorem dX8_ruledLet_23 : decode cX8_ruledLet 23 = .ok (.istore_n 2, 1) := by decide +kernel
theorem dX8_ruledLet_24 : decode cX8_ruledLet 24 = .ok (.iload_n 2, 1) := by decide +kernel
theorem dX8_ruledLet_25 : decode cX8_ruledLet 25 = .ok (.ifCond .ge 7, 3) := by decide +kernel
theorem dX8_ruledLet_28 : decode cX8_ruledLet 28 = .ok (.iconst 0, 1) := by decide +kernel
theorem dX8_ruledLet_29 : decode cX8_ruledLet 29 = .ok (.goto 23, 3) := by decide +kernel
theorem dX8_ruledLet_32 : decode cX8_ruledLet 32 = .ok (.iload_n 2, 1) := by decide +kernel
theorem dX8_ruledLet_33 : decode cX8_ruledLet 33 = .ok (.aload_n 0, 1) := by decide +kernel
theorem dX8_ruledLet_34 : decode cX8_ruledLet 34 = .ok (.getfield 80, 3) := by decide +kernel
theorem dX8_ruledLet_37 : decode cX8_ruledLet 37 = .ok (.iload_n 1, 1) := by decide +kernel
theorem dX8_ruledLet_38 : decode cX8_ruledLet 38 = .ok (.iaload, 1) := by decide +kernel
theorem dX8_ruledLet_39 : decode cX8_ruledLet 39 = .ok (.if_icmp .le 12, 3) := by decide +kernel
theorem dX8_ruledLet_42 : decode cX8_ruledLet 42 = .ok (.aload_n 0, 1) := by decide +kernel
theorem dX8_ruledLet_43 : decode cX8_ruledLet 43 = .ok (.getfield 80, 3) := by decide +kernel
theorem dX8_ruledLet_46 : decode cX8_ruledLet 46 = .ok (.iload_n 1, 1) := by decide +kernel
theorem dX8_ruledLet_47 : decode cX8_ruledLet 47 = .ok (.iaload, 1) := by decide +kernel
theorem dX8_ruledLet_48 : decode cX8_ruledLet 48 = .ok (.goto 4, 3) := by decide +kernel
theorem dX8_ruledLet_51 : decode cX8_ruledLet 51 = .ok (.iload_n 2, 1) := by decide +kernel
theorem dX8_ruledLet_52 : decode cX8_ruledLet 52 = .ok (.istore_n 2, 1) := by decide +kernel
theorem dX8_ruledLet_53 : decode cX8_ruledLet 53 = .ok (.aload_n 0, 1) := by decide +kernel
theorem dX8_ruledLet_54 : decode cX8_ruledLet 54 = .ok (.getfield 59, 3) := by decide +kernel
theorem dX8_ruledLet_57 : decode cX8_ruledLet 57 = .ok (.iload_n 1, 1) := by decide +kernel
theorem dX8_ruledLet_58 : decode cX8_ruledLet 58 = .ok (.iload_n 2, 1) := by decide +kernel
theorem dX8_ruledLet_59 : decode cX8_ruledLet 59 = .ok (.aload_n 0, 1) := by decide +kernel
theorem dX8_ruledLet_60 : decode cX8_ruledLet 60 = .ok (.iload_n 1, 1) := by decide +kernel
theorem dX8_ruledLet_61 : decode cX8_ruledLet 61 = .ok (.invokevirtual 155, 3) := by decide +kernel
theorem dX8_ruledLet_64 : decode cX8_ruledLet 64 = .ok (.if_icmp .ge 11, 3) := by decide +kernel
theorem dX8_ruledLet_67 : decode cX8_ruledLet 67 = .ok (.aload_n 0, 1) := by decide +kernel
theorem dX8_ruledLet_68 : decode cX8_ruledLet 68 = .ok (.iload_n 1, 1) := by decide +kernel
theorem dX8_ruledLet_69 : decode cX8_ruledLet 69 = .ok (.invokevirtual 155, 3) := by decide +kernel
theorem dX8_ruledLet_72 : decode cX8_ruledLet 72 = .ok (.goto 21, 3) := by decide +kernel
theorem dX8_ruledLet_75 : decode cX8_ruledLet 75 = .ok (.iload_n 2, 1) := by decide +kernel
theorem dX8_ruledLet_76 : decode cX8_ruledLet 76 = .ok (.aload_n 0, 1) := by decide +kernel
theorem dX8_ruledLet_77 : decode cX8_ruledLet 77 = .ok (.iload_n 1, 1) := by decide +kernel
theorem dX8_ruledLet_78 : decode cX8_ruledLet 78 = .ok (.invokevirtual 161, 3) := by decide +kernel
theorem dX8_ruledLet_81 : decode cX8_ruledLet 81 = .ok (.if_icmp .le 11, 3) := by decide +kernel
theorem dX8_ruledLet_84 : decode cX8_ruledLet 84 = .ok (.aload_n 0, 1) := by decide +kernel
theorem dX8_ruledLet_85 : decode cX8_ruledLet 85 = .ok (.iload_n 1, 1) := by decide +kernel
theorem dX8_ruledLet_86 : decode cX8_ruledLet 86 = .ok (.invokevirtual 161, 3) := by decide +kernel
theorem dX8_ruledLet_89 : decode cX8_ruledLet 89 = .ok (.goto 4, 3) := by decide +kernel
theorem dX8_ruledLet_92 : decode cX8_ruledLet 92 = .ok (.iload_n 2, 1) := by decide +kernel
theorem dX8_ruledLet_93 : decode cX8_ruledLet 93 = .ok (.iastore, 1) := by decide +kernel
theorem dX8_ruledLet_94 : decode cX8_ruledLet 94 = .ok (.iinc 1 1, 3) := by decide +kernel
theorem dX8_ruledLet_97 : decode cX8_ruledLet 97 = .ok (.goto (-95), 3) := by decide +kernel
theorem dX8_ruledLet_100 : decode cX8_ruledLet 100 = .ok (.return_, 1) := by decide +kernel
theorem dX8_walk_0 : decode cX8_walk 0 = .ok (.iconst 0, 1) := by decide +kernel
theorem dX8_walk_1 : decode cX8_walk 1 = .ok (.istore_n 3, 1) := by decide +kernel
theorem dX8_walk_2 : decode cX8_walk 2 = .ok (.iload_n 3, 1) := by decide +kernel
theorem dX8_walk_3 : decode cX8_walk 3 = .ok (.aload_n 0, 1) := by decide +kernel
theorem dX8_walk_4 : decode cX8_walk 4 = .ok (.getfield 41, 3) := by decide +kernel
theorem dX8_walk_7 : decode cX8_walk 7 = .ok (.if_icmp .ge 225, 3) := by decide +kernel
theorem dX8_walk_10 : decode cX8_walk 10 = .ok (.aload_n 0, 1) := by decide +kernel
theorem dX8_walk_11 : decode cX8_walk 11 = .ok (.getfield 83, 3) := by decide +kernel
theorem dX8_walk_14 : decode cX8_walk 14 = .ok (.iload_n 3, 1) := by decide +kernel
theorem dX8_walk_15 : decode cX8_walk 15 = .ok (.iload_n 3, 1) := by decide +kernel
theorem dX8_walk_16 : decode cX8_walk 16 = .ok (.iload_n 1, 1) := by decide +kernel
theorem dX8_walk_17 : decode cX8_walk 17 = .ok (.if_icmp .eq 22, 3) := by decide +kernel
theorem dX8_walk_20 : decode cX8_walk 20 = .ok (.iload_n 3, 1) := by decide +kernel
theorem dX8_walk_21 : decode cX8_walk 21 = .ok (.iload_n 1, 1) := by decide +kernel
theorem dX8_walk_22 : decode cX8_walk 22 = .ok (.if_icmp .le 21, 3) := by decide +kernel
theorem dX8_walk_25 : decode cX8_walk 25 = .ok (.aload_n 0, 1) := by decide +kernel
theorem dX8_walk_26 : decode cX8_walk 26 = .ok (.getfield 83, 3) := by decide +kernel
theorem dX8_walk_29 : decode cX8_walk 29 = .ok (.aload_n 0, 1) := by decide +kernel
theorem dX8_walk_30 : decode cX8_walk 30 = .ok (.getfield 44, 3) := by decide +kernel
theorem dX8_walk_33 : decode cX8_walk 33 = .ok (.iload_n 3, 1) := by decide +kernel
theorem dX8_walk_34 : decode cX8_walk 34 = .ok (.iaload, 1) := by decide +kernel
theorem dX8_walk_35 : decode cX8_walk 35 = .ok (.baload, 1) := by decide +kernel
theorem dX8_walk_36 : decode cX8_walk 36 = .ok (.ifCond .eq 7, 3) := by decide +kernel
theorem dX8_walk_39 : decode cX8_walk 39 = .ok (.iconst 1, 1) := by decide +kernel
theorem dX8_walk_40 : decode cX8_walk 40 = .ok (.goto 4, 3) := by decide +kernel
theorem dX8_walk_43 : decode cX8_walk 43 = .ok (.iconst 0, 1) := by decide +kernel
theorem dX8_walk_44 : decode cX8_walk 44 = .ok (.bastore, 1) := by decide +kernel
theorem dX8_walk_45 : decode cX8_walk 45 = .ok (.aload_n 0, 1) := by decide +kernel
theorem dX8_walk_46 : decode cX8_walk 46 = .ok (.getfield 83, 3) := by decide +kernel
theorem dX8_walk_49 : decode cX8_walk 49 = .ok (.iload_n 3, 1) := by decide +kernel
theorem dX8_walk_50 : decode cX8_walk 50 = .ok (.baload, 1) := by decide +kernel
theorem dX8_walk_51 : decode cX8_walk 51 = .ok (.ifCond .ne 6, 3) := by decide +kernel
theorem dX8_walk_54 : decode cX8_walk 54 = .ok (.goto 172, 3) := by decide +kernel
theorem dX8_walk_57 : decode cX8_walk 57 = .ok (.iload_n 3, 1) := by decide +kernel
theorem dX8_walk_58 : decode cX8_walk 58 = .ok (.iload_n 1, 1) := by decide +kernel
theorem dX8_walk_59 : decode cX8_walk 59 = .ok (.if_icmp .ne 27, 3) := by decide +kernel
theorem dX8_walk_62 : decode cX8_walk 62 = .ok (.aload_n 0, 1) := by decide +kernel
theorem dX8_walk_63 : decode cX8_walk 63 = .ok (.getfield 86, 3) := by decide +kernel
theorem dX8_walk_66 : decode cX8_walk 66 = .ok (.iload_n 3, 1) := by decide +kernel
theorem dX8_walk_67 : decode cX8_walk 67 = .ok (.iload_n 2, 1) := by decide +kernel
theorem dX8_walk_68 : decode cX8_walk 68 = .ok (.iastore, 1) := by decide +kernel
theorem dX8_walk_69 : decode cX8_walk 69 = .ok (.aload_n 0, 1) := by decide +kernel
theorem dX8_walk_70 : decode cX8_walk 70 = .ok (.getfield 89, 3) := by decide +kernel
theorem dX8_walk_73 : decode cX8_walk 73 = .ok (.iload_n 3, 1) := by decide +kernel
theorem dX8_walk_74 : decode cX8_walk 74 = .ok (.iconst 0, 1) := by decide +kernel
theorem dX8_walk_75 : decode cX8_walk 75 = .ok (.iastore, 1) := by decide +kernel
theorem dX8_walk_76 : decode cX8_walk 76 = .ok (.aload_n 0, 1) := by decide +kernel
theorem dX8_walk_77 : decode cX8_walk 77 = .ok (.getfield 92, 3) := by decide +kernel
theorem dX8_walk_80 : decode cX8_walk 80 = .ok (.iload_n 3, 1) := by decide +kernel
theorem dX8_walk_81 : decode cX8_walk 81 = .ok (.iconst 0, 1) := by decide +kernel
theorem dX8_walk_82 : decode cX8_walk 82 = .ok (.bastore, 1) := by decide +kernel
theorem dX8_walk_83 : decode cX8_walk 83 = .ok (.goto 143, 3) := by decide +kernel
theorem dX8_walk_86 : decode cX8_walk 86 = .ok (.aload_n 0, 1) := by decide +kernel
theorem dX8_walk_87 : decode cX8_walk 87 = .ok (.aload_n 0, 1) := by decide +kernel
theorem dX8_walk_88 : decode cX8_walk 88 = .ok (.getfield 86, 3) := by decide +kernel
theorem dX8_walk_91 : decode cX8_walk 91 = .ok (.aload_n 0, 1) := by decide +kernel
theorem dX8_walk_92 : decode cX8_walk 92 = .ok (.getfield 44, 3) := by decide +kernel
theorem dX8_walk_95 : decode cX8_walk 95 = .ok (.iload_n 3, 1) := by decide +kernel
theorem dX8_walk_96 : decode cX8_walk 96 = .ok (.iaload, 1) := by decide +kernel
theorem dX8_walk_97 : decode cX8_walk 97 = .ok (.iaload, 1) := by decide +kernel
theorem dX8_walk_98 : decode cX8_walk 98 = .ok (.invokevirtual 164, 3) := by decide +kernel
theorem dX8_walk_101 : decode cX8_walk 101 = .ok (.aload_n 0, 1) := by decide +kernel
theorem dX8_walk_102 : decode cX8_walk 102 = .ok (.invokevirtual 215, 3) := by decide +kernel
theorem dX8_walk_105 : decode cX8_walk 105 = .ok (.aload_n 0, 1) := by decide +kernel
theorem dX8_walk_106 : decode cX8_walk 106 = .ok (.getfield 89, 3) := by decide +kernel
theorem dX8_walk_109 : decode cX8_walk 109 = .ok (.iload_n 3, 1) := by decide +kernel
theorem dX8_walk_110 : decode cX8_walk 110 = .ok (.aload_n 0, 1) := by decide +kernel
theorem dX8_walk_111 : decode cX8_walk 111 = .ok (.getfield 89, 3) := by decide +kernel
theorem dX8_walk_114 : decode cX8_walk 114 = .ok (.aload_n 0, 1) := by decide +kernel
theorem dX8_walk_115 : decode cX8_walk 115 = .ok (.getfield 44, 3) := by decide +kernel
theorem dX8_walk_118 : decode cX8_walk 118 = .ok (.iload_n 3, 1) := by decide +kernel
theorem dX8_walk_119 : decode cX8_walk 119 = .ok (.iaload, 1) := by decide +kernel
theorem dX8_walk_120 : decode cX8_walk 120 = .ok (.iaload, 1) := by decide +kernel
theorem dX8_walk_121 : decode cX8_walk 121 = .ok (.aload_n 0, 1) := by decide +kernel
theorem dX8_walk_122 : decode cX8_walk 122 = .ok (.aload_n 0, 1) := by decide +kernel
theorem dX8_walk_123 : decode cX8_walk 123 = .ok (.getfield 50, 3) := by decide +kernel
theorem dX8_walk_126 : decode cX8_walk 126 = .ok (.iload_n 3, 1) := by decide +kernel
theorem dX8_walk_127 : decode cX8_walk 127 = .ok (.iaload, 1) := by decide +kernel
theorem dX8_walk_128 : decode cX8_walk 128 = .ok (.invokevirtual 191, 3) := by decide +kernel
theorem dX8_walk_131 : decode cX8_walk 131 = .ok (.iadd, 1) := by decide +kernel
theorem dX8_walk_132 : decode cX8_walk 132 = .ok (.iastore, 1) := by decide +kernel
theorem dX8_walk_133 : decode cX8_walk 133 = .ok (.aload_n 0, 1) := by decide +kernel
theorem dX8_walk_134 : decode cX8_walk 134 = .ok (.getfield 86, 3) := by decide +kernel
theorem dX8_walk_137 : decode cX8_walk 137 = .ok (.iload_n 3, 1) := by decide +kernel
theorem dX8_walk_138 : decode cX8_walk 138 = .ok (.aload_n 0, 1) := by decide +kernel
theorem dX8_walk_139 : decode cX8_walk 139 = .ok (.iload_n 3, 1) := by decide +kernel
theorem dX8_walk_140 : decode cX8_walk 140 = .ok (.invokevirtual 178, 3) := by decide +kernel
theorem dX8_walk_143 : decode cX8_walk 143 = .ok (.iastore, 1) := by decide +kernel
theorem dX8_walk_144 : decode cX8_walk 144 = .ok (.aload_n 0, 1) := by decide +kernel
theorem dX8_walk_145 : decode cX8_walk 145 = .ok (.aload_n 0, 1) := by decide +kernel
theorem dX8_walk_146 : decode cX8_walk 146 = .ok (.getfield 86, 3) := by decide +kernel
theorem dX8_walk_149 : decode cX8_walk 149 = .ok (.iload_n 3, 1) := by decide +kernel
theorem dX8_walk_150 : decode cX8_walk 150 = .ok (.iaload, 1) := by decide +kernel
theorem dX8_walk_151 : decode cX8_walk 151 = .ok (.invokevirtual 164, 3) := by decide +kernel
theorem dX8_walk_154 : decode cX8_walk 154 = .ok (.aload_n 0, 1) := by decide +kernel
theorem dX8_walk_155 : decode cX8_walk 155 = .ok (.getfield 92, 3) := by decide +kernel
theorem dX8_walk_158 : decode cX8_walk 158 = .ok (.iload_n 3, 1) := by decide +kernel
theorem dX8_walk_159 : decode cX8_walk 159 = .ok (.aload_n 0, 1) := by decide +kernel
theorem dX8_walk_160 : decode cX8_walk 160 = .ok (.getfield 92, 3) := by decide +kernel
theorem dX8_walk_163 : decode cX8_walk 163 = .ok (.aload_n 0, 1) := by decide +kernel
theorem dX8_walk_164 : decode cX8_walk 164 = .ok (.getfield 44, 3) := by decide +kernel
theorem dX8_walk_167 : decode cX8_walk 167 = .ok (.iload_n 3, 1) := by decide +kernel
theorem dX8_walk_168 : decode cX8_walk 168 = .ok (.iaload, 1) := by decide +kernel
theorem dX8_walk_169 : decode cX8_walk 169 = .ok (.baload, 1) := by decide +kernel
theorem dX8_walk_170 : decode cX8_walk 170 = .ok (.bastore, 1) := by decide +kernel
theorem dX8_walk_171 : decode cX8_walk 171 = .ok (.iconst 0, 1) := by decide +kernel
theorem dX8_walk_172 : decode cX8_walk 172 = .ok (.istore 4, 2) := by decide +kernel
theorem dX8_walk_174 : decode cX8_walk 174 = .ok (.iload 4, 2) := by decide +kernel
theorem dX8_walk_176 : decode cX8_walk 176 = .ok (.aload_n 0, 1) := by decide +kernel
theorem dX8_walk_177 : decode cX8_walk 177 = .ok (.getfield 119, 3) := by decide +kernel
theorem dX8_walk_180 : decode cX8_walk 180 = .ok (.if_icmp .ge 46, 3) := by decide +kernel
theorem dX8_walk_183 : decode cX8_walk 183 = .ok (.aload_n 0, 1) := by decide +kernel
theorem dX8_walk_184 : decode cX8_walk 184 = .ok (.getfield 92, 3) := by decide +kernel
theorem dX8_walk_187 : decode cX8_walk 187 = .ok (.iload_n 3, 1) := by decide +kernel
theorem dX8_walk_188 : decode cX8_walk 188 = .ok (.aload_n 0, 1) := by decide +kernel
theorem dX8_walk_189 : decode cX8_walk 189 = .ok (.getfield 92, 3) := by decide +kernel
theorem dX8_walk_192 : decode cX8_walk 192 = .ok (.iload_n 3, 1) := by decide +kernel
theorem dX8_walk_193 : decode cX8_walk 193 = .ok (.baload, 1) := by decide +kernel
theorem dX8_walk_194 : decode cX8_walk 194 = .ok (.ifCond .ne 20, 3) := by decide +kernel
theorem dX8_walk_197 : decode cX8_walk 197 = .ok (.aload_n 0, 1) := by decide +kernel
theorem dX8_walk_198 : decode cX8_walk 198 = .ok (.getfield 56, 3) := by decide +kernel
theorem dX8_walk_201 : decode cX8_walk 201 = .ok (.iload 4, 2) := by decide +kernel
theorem dX8_walk_203 : decode cX8_walk 203 = .ok (.iaload, 1) := by decide +kernel
theorem dX8_walk_204 : decode cX8_walk 204 = .ok (.aload_n 0, 1) := by decide +kernel
theorem dX8_walk_205 : decode cX8_walk 205 = .ok (.getfield 13, 3) := by decide +kernel
theorem dX8_walk_208 : decode cX8_walk 208 = .ok (.iload 4, 2) := by decide +kernel
theorem dX8_walk_210 : decode cX8_walk 210 = .ok (.iaload, 1) := by decide +kernel
theorem dX8_walk_211 : decode cX8_walk 211 = .ok (.if_icmp .ge 7, 3) := by decide +kernel
theorem dX8_walk_214 : decode cX8_walk 214 = .ok (.iconst 1, 1) := by decide +kernel
theorem dX8_walk_215 : decode cX8_walk 215 = .ok (.goto 4, 3) := by decide +kernel
theorem dX8_walk_218 : decode cX8_walk 218 = .ok (.iconst 0, 1) := by decide +kernel
theorem dX8_walk_219 : decode cX8_walk 219 = .ok (.bastore, 1) := by decide +kernel
theorem dX8_walk_220 : decode cX8_walk 220 = .ok (.iinc 4 1, 3) := by decide +kernel
theorem dX8_walk_223 : decode cX8_walk 223 = .ok (.goto (-49), 3) := by decide +kernel
theorem dX8_walk_226 : decode cX8_walk 226 = .ok (.iinc 3 1, 3) := by decide +kernel
theorem dX8_walk_229 : decode cX8_walk 229 = .ok (.goto (-227), 3) := by decide +kernel
theorem dX8_walk_232 : decode cX8_walk 232 = .ok (.aload_n 0, 1) := by decide +kernel
theorem dX8_walk_233 : decode cX8_walk 233 = .ok (.getfield 41, 3) := by decide +kernel
theorem dX8_walk_236 : decode cX8_walk 236 = .ok (.iconst 1, 1) := by decide +kernel
theorem dX8_walk_237 : decode cX8_walk 237 = .ok (.isub, 1) := by decide +kernel
theorem dX8_walk_238 : decode cX8_walk 238 = .ok (.istore_n 3, 1) := by decide +kernel
theorem dX8_walk_239 : decode cX8_walk 239 = .ok (.iload_n 3, 1) := by decide +kernel
theorem dX8_walk_240 : decode cX8_walk 240 = .ok (.iload_n 1, 1) := by decide +kernel
theorem dX8_walk_241 : decode cX8_walk 241 = .ok (.if_icmp .lt 35, 3) := by decide +kernel
theorem dX8_walk_244 : decode cX8_walk 244 = .ok (.aload_n 0, 1) := by decide +kernel
theorem dX8_walk_245 : decode cX8_walk 245 = .ok (.getfield 98, 3) := by decide +kernel
theorem dX8_walk_248 : decode cX8_walk 248 = .ok (.iload_n 3, 1) := by decide +kernel
theorem dX8_walk_249 : decode cX8_walk 249 = .ok (.aload_n 0, 1) := by decide +kernel
theorem dX8_walk_250 : decode cX8_walk 250 = .ok (.getfield 50, 3) := by decide +kernel
theorem dX8_walk_253 : decode cX8_walk 253 = .ok (.iload_n 3, 1) := by decide +kernel
theorem dX8_walk_254 : decode cX8_walk 254 = .ok (.iaload, 1) := by decide +kernel
theorem dX8_walk_255 : decode cX8_walk 255 = .ok (.aload_n 0, 1) := by decide +kernel
theorem dX8_walk_256 : decode cX8_walk 256 = .ok (.getfield 32, 3) := by decide +kernel
theorem dX8_walk_259 : decode cX8_walk 259 = .ok (.iconst 1, 1) := by decide +kernel
theorem dX8_walk_260 : decode cX8_walk 260 = .ok (.isub, 1) := by decide +kernel
theorem dX8_walk_261 : decode cX8_walk 261 = .ok (.if_icmp .ne 7, 3) := by decide +kernel
theorem dX8_walk_264 : decode cX8_walk 264 = .ok (.iconst 1, 1) := by decide +kernel
theorem dX8_walk_265 : decode cX8_walk 265 = .ok (.goto 4, 3) := by decide +kernel
theorem dX8_walk_268 : decode cX8_walk 268 = .ok (.iconst 0, 1) := by decide +kernel
theorem dX8_walk_269 : decode cX8_walk 269 = .ok (.iastore, 1) := by decide +kernel
theorem dX8_walk_270 : decode cX8_walk 270 = .ok (.iinc 3 (-1), 3) := by decide +kernel
theorem dX8_walk_273 : decode cX8_walk 273 = .ok (.goto (-34), 3) := by decide +kernel
theorem dX8_walk_276 : decode cX8_walk 276 = .ok (.aload_n 0, 1) := by decide +kernel
theorem dX8_walk_277 : decode cX8_walk 277 = .ok (.getfield 41, 3) := by decide +kernel
theorem dX8_walk_280 : decode cX8_walk 280 = .ok (.iconst 1, 1) := by decide +kernel
theorem dX8_walk_281 : decode cX8_walk 281 = .ok (.isub, 1) := by decide +kernel
theorem dX8_walk_282 : decode cX8_walk 282 = .ok (.istore_n 3, 1) := by decide +kernel
theorem dX8_walk_283 : decode cX8_walk 283 = .ok (.iload_n 3, 1) := by decide +kernel
theorem dX8_walk_284 : decode cX8_walk 284 = .ok (.iload_n 1, 1) := by decide +kernel
theorem dX8_walk_285 : decode cX8_walk 285 = .ok (.if_icmp .le 29, 3) := by decide +kernel
theorem dX8_walk_288 : decode cX8_walk 288 = .ok (.aload_n 0, 1) := by decide +kernel
theorem dX8_walk_289 : decode cX8_walk 289 = .ok (.getfield 98, 3) := by decide +kernel
theorem dX8_walk_292 : decode cX8_walk 292 = .ok (.aload_n 0, 1) := by decide +kernel
theorem dX8_walk_293 : decode cX8_walk 293 = .ok (.getfield 44, 3) := by decide +kernel
theorem dX8_walk_296 : decode cX8_walk 296 = .ok (.iload_n 3, 1) := by decide +kernel
theorem dX8_walk_297 : decode cX8_walk 297 = .ok (.iaload, 1) := by decide +kernel
theorem dX8_walk_298 : decode cX8_walk 298 = .ok (.dup2, 1) := by decide +kernel
theorem dX8_walk_299 : decode cX8_walk 299 = .ok (.iaload, 1) := by decide +kernel
theorem dX8_walk_300 : decode cX8_walk 300 = .ok (.aload_n 0, 1) := by decide +kernel
theorem dX8_walk_301 : decode cX8_walk 301 = .ok (.getfield 98, 3) := by decide +kernel
theorem dX8_walk_304 : decode cX8_walk 304 = .ok (.iload_n 3, 1) := by decide +kernel
theorem dX8_walk_305 : decode cX8_walk 305 = .ok (.iaload, 1) := by decide +kernel
theorem dX8_walk_306 : decode cX8_walk 306 = .ok (.iadd, 1) := by decide +kernel
theorem dX8_walk_307 : decode cX8_walk 307 = .ok (.iastore, 1) := by decide +kernel
theorem dX8_walk_308 : decode cX8_walk 308 = .ok (.iinc 3 (-1), 3) := by decide +kernel
theorem dX8_walk_311 : decode cX8_walk 311 = .ok (.goto (-28), 3) := by decide +kernel
theorem dX8_walk_314 : decode cX8_walk 314 = .ok (.return_, 1) := by decide +kernel
theorem dX8_mean_0 : decode cX8_mean 0 = .ok (.aload_n 0, 1) := by decide +kernel
theorem dX8_mean_1 : decode cX8_mean 1 = .ok (.iload_n 1, 1) := by decide +kernel
theorem dX8_mean_2 : decode cX8_mean 2 = .ok (.invokevirtual 144, 3) := by decide +kernel
theorem dX8_mean_5 : decode cX8_mean 5 = .ok (.ifCond .eq 18, 3) := by decide +kernel
theorem dX8_mean_8 : decode cX8_mean 8 = .ok (.aload_n 0, 1) := by decide +kernel
theorem dX8_mean_9 : decode cX8_mean 9 = .ok (.iload_n 2, 1) := by decide +kernel
theorem dX8_mean_10 : decode cX8_mean 10 = .ok (.invokevirtual 200, 3) := by decide +kernel
theorem dX8_mean_13 : decode cX8_mean 13 = .ok (.ifCond .eq 10, 3) := by decide +kernel
theorem dX8_mean_16 : decode cX8_mean 16 = .ok (.aload_n 0, 1) := by decide +kernel
theorem dX8_mean_17 : decode cX8_mean 17 = .ok (.invokevirtual 151, 3) := by decide +kernel
theorem dX8_mean_20 : decode cX8_mean 20 = .ok (.ifCond .ne 7, 3) := by decide +kernel
theorem dX8_mean_23 : decode cX8_mean 23 = .ok (.ldc2_w 203, 3) := by decide +kernel
theorem dX8_mean_26 : decode cX8_mean 26 = .ok (.lreturn, 1) := by decide +kernel
theorem dX8_mean_27 : decode cX8_mean 27 = .ok (.aload_n 0, 1) := by decide +kernel
theorem dX8_mean_28 : decode cX8_mean 28 = .ok (.iload_n 1, 1) := by decide +kernel
theorem dX8_mean_29 : decode cX8_mean 29 = .ok (.iload_n 2, 1) := by decide +kernel
theorem dX8_mean_30 : decode cX8_mean 30 = .ok (.invokevirtual 218, 3) := by decide +kernel
theorem dX8_mean_33 : decode cX8_mean 33 = .ok (.aload_n 0, 1) := by decide +kernel
theorem dX8_mean_34 : decode cX8_mean 34 = .ok (.getfield 41, 3) := by decide +kernel
theorem dX8_mean_37 : decode cX8_mean 37 = .ok (.iconst 1, 1) := by decide +kernel
theorem dX8_mean_38 : decode cX8_mean 38 = .ok (.isub, 1) := by decide +kernel
theorem dX8_mean_39 : decode cX8_mean 39 = .ok (.istore_n 3, 1) := by decide +kernel
theorem dX8_mean_40 : decode cX8_mean 40 = .ok (.iload_n 3, 1) := by decide +kernel
theorem dX8_mean_41 : decode cX8_mean 41 = .ok (.iload_n 1, 1) := by decide +kernel
theorem dX8_mean_42 : decode cX8_mean 42 = .ok (.if_icmp .lt 174, 3) := by decide +kernel
theorem dX8_mean_45 : decode cX8_mean 45 = .ok (.aload_n 0, 1) := by decide +kernel
theorem dX8_mean_46 : decode cX8_mean 46 = .ok (.getfield 83, 3) := by decide +kernel
theorem dX8_mean_49 : decode cX8_mean 49 = .ok (.iload_n 3, 1) := by decide +kernel
theorem dX8_mean_50 : decode cX8_mean 50 = .ok (.baload, 1) := by decide +kernel
theorem dX8_mean_51 : decode cX8_mean 51 = .ok (.ifCond .ne 6, 3) := by decide +kernel
theorem dX8_mean_54 : decode cX8_mean 54 = .ok (.goto 156, 3) := by decide +kernel
theorem dX8_mean_57 : decode cX8_mean 57 = .ok (.aload_n 0, 1) := by decide +kernel
theorem dX8_mean_58 : decode cX8_mean 58 = .ok (.getfield 95, 3) := by decide +kernel
theorem dX8_mean_61 : decode cX8_mean 61 = .ok (.iload_n 3, 1) := by decide +kernel
theorem dX8_mean_62 : decode cX8_mean 62 = .ok (.aload_n 0, 1) := by decide +kernel
theorem dX8_mean_63 : decode cX8_mean 63 = .ok (.getfield 50, 3) := by decide +kernel
theorem dX8_mean_66 : decode cX8_mean 66 = .ok (.iload_n 3, 1) := by decide +kernel
theorem dX8_mean_67 : decode cX8_mean 67 = .ok (.iaload, 1) := by decide +kernel
theorem dX8_mean_68 : decode cX8_mean 68 = .ok (.aload_n 0, 1) := by decide +kernel
theorem dX8_mean_69 : decode cX8_mean 69 = .ok (.getfield 32, 3) := by decide +kernel
theorem dX8_mean_72 : decode cX8_mean 72 = .ok (.iconst 1, 1) := by decide +kernel
theorem dX8_mean_73 : decode cX8_mean 73 = .ok (.isub, 1) := by decide +kernel
theorem dX8_mean_74 : decode cX8_mean 74 = .ok (.if_icmp .ne 17, 3) := by decide +kernel
theorem dX8_mean_77 : decode cX8_mean 77 = .ok (.aload_n 0, 1) := by decide +kernel
theorem dX8_mean_78 : decode cX8_mean 78 = .ok (.aload_n 0, 1) := by decide +kernel
theorem dX8_mean_79 : decode cX8_mean 79 = .ok (.getfield 86, 3) := by decide +kernel
theorem dX8_mean_82 : decode cX8_mean 82 = .ok (.iload_n 3, 1) := by decide +kernel
theorem dX8_mean_83 : decode cX8_mean 83 = .ok (.iaload, 1) := by decide +kernel
theorem dX8_mean_84 : decode cX8_mean 84 = .ok (.invokevirtual 184, 3) := by decide +kernel
theorem dX8_mean_87 : decode cX8_mean 87 = .ok (.i2l, 1) := by decide +kernel
theorem dX8_mean_88 : decode cX8_mean 88 = .ok (.goto 4, 3) := by decide +kernel
theorem dX8_mean_91 : decode cX8_mean 91 = .ok (.lconst 0, 1) := by decide +kernel
theorem dX8_mean_92 : decode cX8_mean 92 = .ok (.lastore, 1) := by decide +kernel
theorem dX8_mean_93 : decode cX8_mean 93 = .ok (.aload_n 0, 1) := by decide +kernel
theorem dX8_mean_94 : decode cX8_mean 94 = .ok (.getfield 50, 3) := by decide +kernel
theorem dX8_mean_97 : decode cX8_mean 97 = .ok (.iload_n 3, 1) := by decide +kernel
theorem dX8_mean_98 : decode cX8_mean 98 = .ok (.iaload, 1) := by decide +kernel
theorem dX8_mean_99 : decode cX8_mean 99 = .ok (.aload_n 0, 1) := by decide +kernel
theorem dX8_mean_100 : decode cX8_mean 100 = .ok (.getfield 32, 3) := by decide +kernel
theorem dX8_mean_103 : decode cX8_mean 103 = .ok (.iconst 1, 1) := by decide +kernel
theorem dX8_mean_104 : decode cX8_mean 104 = .ok (.isub, 1) := by decide +kernel
theorem dX8_mean_105 : decode cX8_mean 105 = .ok (.if_icmp .ne 6, 3) := by decide +kernel
theorem dX8_mean_108 : decode cX8_mean 108 = .ok (.goto 102, 3) := by decide +kernel
theorem dX8_mean_111 : decode cX8_mean 111 = .ok (.aload_n 0, 1) := by decide +kernel
theorem dX8_mean_112 : decode cX8_mean 112 = .ok (.aload_n 0, 1) := by decide +kernel
theorem dX8_mean_113 : decode cX8_mean 113 = .ok (.getfield 86, 3) := by decide +kernel
theorem dX8_mean_116 : decode cX8_mean 116 = .ok (.iload_n 3, 1) := by decide +kernel
theorem dX8_mean_117 : decode cX8_mean 117 = .ok (.iaload, 1) := by decide +kernel
theorem dX8_mean_118 : decode cX8_mean 118 = .ok (.invokevirtual 164, 3) := by decide +kernel
theorem dX8_mean_121 : decode cX8_mean 121 = .ok (.aload_n 0, 1) := by decide +kernel
theorem dX8_mean_122 : decode cX8_mean 122 = .ok (.invokevirtual 215, 3) := by decide +kernel
theorem dX8_mean_125 : decode cX8_mean 125 = .ok (.aload_n 0, 1) := by decide +kernel
theorem dX8_mean_126 : decode cX8_mean 126 = .ok (.getfield 95, 3) := by decide +kernel
theorem dX8_mean_129 : decode cX8_mean 129 = .ok (.iload_n 3, 1) := by decide +kernel
theorem dX8_mean_130 : decode cX8_mean 130 = .ok (.aload_n 0, 1) := by decide +kernel
theorem dX8_mean_131 : decode cX8_mean 131 = .ok (.iload_n 3, 1) := by decide +kernel
theorem dX8_mean_132 : decode cX8_mean 132 = .ok (.invokevirtual 187, 3) := by decide +kernel
theorem dX8_mean_135 : decode cX8_mean 135 = .ok (.aload_n 0, 1) := by decide +kernel
theorem dX8_mean_136 : decode cX8_mean 136 = .ok (.aload_n 0, 1) := by decide +kernel
theorem dX8_mean_137 : decode cX8_mean 137 = .ok (.getfield 50, 3) := by decide +kernel
theorem dX8_mean_140 : decode cX8_mean 140 = .ok (.iload_n 3, 1) := by decide +kernel
theorem dX8_mean_141 : decode cX8_mean 141 = .ok (.iaload, 1) := by decide +kernel
theorem dX8_mean_142 : decode cX8_mean 142 = .ok (.iconst 1, 1) := by decide +kernel
theorem dX8_mean_143 : decode cX8_mean 143 = .ok (.iadd, 1) := by decide +kernel
theorem dX8_mean_144 : decode cX8_mean 144 = .ok (.invokevirtual 191, 3) := by decide +kernel
theorem dX8_mean_147 : decode cX8_mean 147 = .ok (.i2l, 1) := by decide +kernel
theorem dX8_mean_148 : decode cX8_mean 148 = .ok (.lmul, 1) := by decide +kernel
theorem dX8_mean_149 : decode cX8_mean 149 = .ok (.lastore, 1) := by decide +kernel
theorem dX8_mean_150 : decode cX8_mean 150 = .ok (.iload_n 3, 1) := by decide +kernel
theorem dX8_mean_151 : decode cX8_mean 151 = .ok (.iconst 1, 1) := by decide +kernel
theorem dX8_mean_152 : decode cX8_mean 152 = .ok (.iadd, 1) := by decide +kernel
theorem dX8_mean_153 : decode cX8_mean 153 = .ok (.istore 4, 2) := by decide +kernel
theorem dX8_mean_155 : decode cX8_mean 155 = .ok (.iload 4, 2) := by decide +kernel
theorem dX8_mean_157 : decode cX8_mean 157 = .ok (.aload_n 0, 1) := by decide +kernel
theorem dX8_mean_158 : decode cX8_mean 158 = .ok (.getfield 41, 3) := by decide +kernel
theorem dX8_mean_161 : decode cX8_mean 161 = .ok (.if_icmp .ge 49, 3) := by decide +kernel
theorem dX8_mean_164 : decode cX8_mean 164 = .ok (.aload_n 0, 1) := by decide +kernel
theorem dX8_mean_165 : decode cX8_mean 165 = .ok (.getfield 95, 3) := by decide +kernel
theorem dX8_mean_168 : decode cX8_mean 168 = .ok (.iload_n 3, 1) := by decide +kernel
theorem dX8_mean_169 : decode cX8_mean 169 = .ok (.dup2, 1) := by decide +kernel
theorem dX8_mean_170 : decode cX8_mean 170 = .ok (.laload, 1) := by decide +kernel
theorem dX8_mean_171 : decode cX8_mean 171 = .ok (.aload_n 0, 1) := by decide +kernel
theorem dX8_mean_172 : decode cX8_mean 172 = .ok (.getfield 44, 3) := by decide +kernel
theorem dX8_mean_175 : decode cX8_mean 175 = .ok (.iload 4, 2) := by decide +kernel
theorem dX8_mean_177 : decode cX8_mean 177 = .ok (.iaload, 1) := by decide +kernel
theorem dX8_mean_178 : decode cX8_mean 178 = .ok (.iload_n 3, 1) := by decide +kernel
theorem dX8_mean_179 : decode cX8_mean 179 = .ok (.if_icmp .ne 22, 3) := by decide +kernel
theorem dX8_mean_182 : decode cX8_mean 182 = .ok (.aload_n 0, 1) := by decide +kernel
theorem dX8_mean_183 : decode cX8_mean 183 = .ok (.getfield 47, 3) := by decide +kernel
theorem dX8_mean_186 : decode cX8_mean 186 = .ok (.iload 4, 2) := by decide +kernel
theorem dX8_mean_188 : decode cX8_mean 188 = .ok (.iaload, 1) := by decide +kernel
theorem dX8_mean_189 : decode cX8_mean 189 = .ok (.i2l, 1) := by decide +kernel
theorem dX8_mean_190 : decode cX8_mean 190 = .ok (.aload_n 0, 1) := by decide +kernel
theorem dX8_mean_191 : decode cX8_mean 191 = .ok (.getfield 95, 3) := by decide +kernel
theorem dX8_mean_194 : decode cX8_mean 194 = .ok (.iload 4, 2) := by decide +kernel
theorem dX8_mean_196 : decode cX8_mean 196 = .ok (.laload, 1) := by decide +kernel
theorem dX8_mean_197 : decode cX8_mean 197 = .ok (.lmul, 1) := by decide +kernel
theorem dX8_mean_198 : decode cX8_mean 198 = .ok (.goto 4, 3) := by decide +kernel
theorem dX8_mean_201 : decode cX8_mean 201 = .ok (.lconst 0, 1) := by decide +kernel
theorem dX8_mean_202 : decode cX8_mean 202 = .ok (.ladd, 1) := by decide +kernel
theorem dX8_mean_203 : decode cX8_mean 203 = .ok (.lastore, 1) := by decide +kernel
theorem dX8_mean_204 : decode cX8_mean 204 = .ok (.iinc 4 1, 3) := by decide +kernel
theorem dX8_mean_207 : decode cX8_mean 207 = .ok (.goto (-52), 3) := by decide +kernel
theorem dX8_mean_210 : decode cX8_mean 210 = .ok (.iinc 3 (-1), 3) := by decide +kernel
theorem dX8_mean_213 : decode cX8_mean 213 = .ok (.goto (-173), 3) := by decide +kernel
theorem dX8_mean_216 : decode cX8_mean 216 = .ok (.aload_n 0, 1) := by decide +kernel
theorem dX8_mean_217 : decode cX8_mean 217 = .ok (.getfield 95, 3) := by decide +kernel
theorem dX8_mean_220 : decode cX8_mean 220 = .ok (.iload_n 1, 1) := by decide +kernel
theorem dX8_mean_221 : decode cX8_mean 221 = .ok (.laload, 1) := by decide +kernel
theorem dX8_mean_222 : decode cX8_mean 222 = .ok (.lreturn, 1) := by decide +kernel
theorem dX8_worst_0 : decode cX8_worst 0 = .ok (.aload_n 0, 1) := by decide +kernel
theorem dX8_worst_1 : decode cX8_worst 1 = .ok (.iload_n 1, 1) := by decide +kernel
theorem dX8_worst_2 : decode cX8_worst 2 = .ok (.invokevirtual 144, 3) := by decide +kernel
theorem dX8_worst_5 : decode cX8_worst 5 = .ok (.ifCond .eq 18, 3) := by decide +kernel
theorem dX8_worst_8 : decode cX8_worst 8 = .ok (.aload_n 0, 1) := by decide +kernel
theorem dX8_worst_9 : decode cX8_worst 9 = .ok (.iload_n 2, 1) := by decide +kernel
theorem dX8_worst_10 : decode cX8_worst 10 = .ok (.invokevirtual 200, 3) := by decide +kernel
theorem dX8_worst_13 : decode cX8_worst 13 = .ok (.ifCond .eq 10, 3) := by decide +kernel
theorem dX8_worst_16 : decode cX8_worst 16 = .ok (.aload_n 0, 1) := by decide +kernel
theorem dX8_worst_17 : decode cX8_worst 17 = .ok (.invokevirtual 151, 3) := by decide +kernel
theorem dX8_worst_20 : decode cX8_worst 20 = .ok (.ifCond .ne 7, 3) := by decide +kernel
theorem dX8_worst_23 : decode cX8_worst 23 = .ok (.ldc2_w 203, 3) := by decide +kernel
theorem dX8_worst_26 : decode cX8_worst 26 = .ok (.lreturn, 1) := by decide +kernel
theorem dX8_worst_27 : decode cX8_worst 27 = .ok (.aload_n 0, 1) := by decide +kernel
end
section
theorem dX8_worst_28 : decode cX8_worst 28 = .ok (.iload_n 1, 1) := by decide +kernel
theorem dX8_worst_29 : decode cX8_worst 29 = .ok (.iload_n 2, 1) := by decide +kernel
theorem dX8_worst_30 : decode cX8_worst 30 = .ok (.invokevirtual 218, 3) := by decide +kernel
theorem dX8_worst_33 : decode cX8_worst 33 = .ok (.iconst 0, 1) := by decide +kernel
theorem dX8_worst_34 : decode cX8_worst 34 = .ok (.istore_n 3, 1) := by decide +kernel
theorem dX8_worst_35 : decode cX8_worst 35 = .ok (.lconst 0, 1) := by decide +kernel
theorem dX8_worst_36 : decode cX8_worst 36 = .ok (.lstore 4, 2) := by decide +kernel
theorem dX8_worst_38 : decode cX8_worst 38 = .ok (.iload_n 1, 1) := by decide +kernel
theorem dX8_worst_39 : decode cX8_worst 39 = .ok (.istore 6, 2) := by decide +kernel
theorem dX8_worst_41 : decode cX8_worst 41 = .ok (.iload 6, 2) := by decide +kernel
theorem dX8_worst_43 : decode cX8_worst 43 = .ok (.aload_n 0, 1) := by decide +kernel
theorem dX8_worst_44 : decode cX8_worst 44 = .ok (.getfield 41, 3) := by decide +kernel
theorem dX8_worst_47 : decode cX8_worst 47 = .ok (.if_icmp .ge 83, 3) := by decide +kernel
theorem dX8_worst_50 : decode cX8_worst 50 = .ok (.aload_n 0, 1) := by decide +kernel
theorem dX8_worst_51 : decode cX8_worst 51 = .ok (.getfield 83, 3) := by decide +kernel
theorem dX8_worst_54 : decode cX8_worst 54 = .ok (.iload 6, 2) := by decide +kernel
theorem dX8_worst_56 : decode cX8_worst 56 = .ok (.baload, 1) := by decide +kernel
theorem dX8_worst_57 : decode cX8_worst 57 = .ok (.ifCond .eq 67, 3) := by decide +kernel
theorem dX8_worst_60 : decode cX8_worst 60 = .ok (.aload_n 0, 1) := by decide +kernel
theorem dX8_worst_61 : decode cX8_worst 61 = .ok (.getfield 50, 3) := by decide +kernel
theorem dX8_worst_64 : decode cX8_worst 64 = .ok (.iload 6, 2) := by decide +kernel
theorem dX8_worst_66 : decode cX8_worst 66 = .ok (.iaload, 1) := by decide +kernel
theorem dX8_worst_67 : decode cX8_worst 67 = .ok (.aload_n 0, 1) := by decide +kernel
theorem dX8_worst_68 : decode cX8_worst 68 = .ok (.getfield 32, 3) := by decide +kernel
theorem dX8_worst_71 : decode cX8_worst 71 = .ok (.iconst 1, 1) := by decide +kernel
theorem dX8_worst_72 : decode cX8_worst 72 = .ok (.isub, 1) := by decide +kernel
theorem dX8_worst_73 : decode cX8_worst 73 = .ok (.if_icmp .ge 6, 3) := by decide +kernel
theorem dX8_worst_76 : decode cX8_worst 76 = .ok (.goto 48, 3) := by decide +kernel
theorem dX8_worst_79 : decode cX8_worst 79 = .ok (.aload_n 0, 1) := by decide +kernel
theorem dX8_worst_80 : decode cX8_worst 80 = .ok (.getfield 89, 3) := by decide +kernel
theorem dX8_worst_83 : decode cX8_worst 83 = .ok (.iload 6, 2) := by decide +kernel
theorem dX8_worst_85 : decode cX8_worst 85 = .ok (.iaload, 1) := by decide +kernel
theorem dX8_worst_86 : decode cX8_worst 86 = .ok (.aload_n 0, 1) := by decide +kernel
theorem dX8_worst_87 : decode cX8_worst 87 = .ok (.aload_n 0, 1) := by decide +kernel
theorem dX8_worst_88 : decode cX8_worst 88 = .ok (.getfield 86, 3) := by decide +kernel
theorem dX8_worst_91 : decode cX8_worst 91 = .ok (.iload 6, 2) := by decide +kernel
theorem dX8_worst_93 : decode cX8_worst 93 = .ok (.iaload, 1) := by decide +kernel
theorem dX8_worst_94 : decode cX8_worst 94 = .ok (.invokevirtual 184, 3) := by decide +kernel
theorem dX8_worst_97 : decode cX8_worst 97 = .ok (.iadd, 1) := by decide +kernel
theorem dX8_worst_98 : decode cX8_worst 98 = .ok (.i2l, 1) := by decide +kernel
theorem dX8_worst_99 : decode cX8_worst 99 = .ok (.lstore 7, 2) := by decide +kernel
theorem dX8_worst_101 : decode cX8_worst 101 = .ok (.iload_n 3, 1) := by decide +kernel
theorem dX8_worst_102 : decode cX8_worst 102 = .ok (.ifCond .eq 16, 3) := by decide +kernel
theorem dX8_worst_105 : decode cX8_worst 105 = .ok (.lload 4, 2) := by decide +kernel
theorem dX8_worst_107 : decode cX8_worst 107 = .ok (.lload 7, 2) := by decide +kernel
theorem dX8_worst_109 : decode cX8_worst 109 = .ok (.lcmp, 1) := by decide +kernel
theorem dX8_worst_110 : decode cX8_worst 110 = .ok (.ifCond .ge 8, 3) := by decide +kernel
theorem dX8_worst_113 : decode cX8_worst 113 = .ok (.lload 4, 2) := by decide +kernel
theorem dX8_worst_115 : decode cX8_worst 115 = .ok (.goto 5, 3) := by decide +kernel
theorem dX8_worst_118 : decode cX8_worst 118 = .ok (.lload 7, 2) := by decide +kernel
theorem dX8_worst_120 : decode cX8_worst 120 = .ok (.lstore 4, 2) := by decide +kernel
theorem dX8_worst_122 : decode cX8_worst 122 = .ok (.iconst 1, 1) := by decide +kernel
theorem dX8_worst_123 : decode cX8_worst 123 = .ok (.istore_n 3, 1) := by decide +kernel
theorem dX8_worst_124 : decode cX8_worst 124 = .ok (.iinc 6 1, 3) := by decide +kernel
theorem dX8_worst_127 : decode cX8_worst 127 = .ok (.goto (-86), 3) := by decide +kernel
theorem dX8_worst_130 : decode cX8_worst 130 = .ok (.lload 4, 2) := by decide +kernel
theorem dX8_worst_132 : decode cX8_worst 132 = .ok (.lreturn, 1) := by decide +kernel
theorem dX8_lack_0 : decode cX8_lack 0 = .ok (.aload_n 0, 1) := by decide +kernel
theorem dX8_lack_1 : decode cX8_lack 1 = .ok (.iload_n 1, 1) := by decide +kernel
theorem dX8_lack_2 : decode cX8_lack 2 = .ok (.invokevirtual 144, 3) := by decide +kernel
theorem dX8_lack_5 : decode cX8_lack 5 = .ok (.ifCond .eq 11, 3) := by decide +kernel
theorem dX8_lack_8 : decode cX8_lack 8 = .ok (.aload_n 0, 1) := by decide +kernel
theorem dX8_lack_9 : decode cX8_lack 9 = .ok (.iload_n 2, 1) := by decide +kernel
theorem dX8_lack_10 : decode cX8_lack 10 = .ok (.invokevirtual 200, 3) := by decide +kernel
theorem dX8_lack_13 : decode cX8_lack 13 = .ok (.ifCond .ne 5, 3) := by decide +kernel
theorem dX8_lack_16 : decode cX8_lack 16 = .ok (.iconst (-1), 1) := by decide +kernel
theorem dX8_lack_17 : decode cX8_lack 17 = .ok (.ireturn, 1) := by decide +kernel
theorem dX8_lack_18 : decode cX8_lack 18 = .ok (.aload_n 0, 1) := by decide +kernel
theorem dX8_lack_19 : decode cX8_lack 19 = .ok (.invokevirtual 151, 3) := by decide +kernel
theorem dX8_lack_22 : decode cX8_lack 22 = .ok (.ifCond .ne 6, 3) := by decide +kernel
theorem dX8_lack_25 : decode cX8_lack 25 = .ok (.bipush (-3), 2) := by decide +kernel
theorem dX8_lack_27 : decode cX8_lack 27 = .ok (.ireturn, 1) := by decide +kernel
theorem dX8_lack_28 : decode cX8_lack 28 = .ok (.aload_n 0, 1) := by decide +kernel
theorem dX8_lack_29 : decode cX8_lack 29 = .ok (.iload_n 1, 1) := by decide +kernel
theorem dX8_lack_30 : decode cX8_lack 30 = .ok (.iload_n 2, 1) := by decide +kernel
theorem dX8_lack_31 : decode cX8_lack 31 = .ok (.invokevirtual 218, 3) := by decide +kernel
theorem dX8_lack_34 : decode cX8_lack 34 = .ok (.iconst 0, 1) := by decide +kernel
theorem dX8_lack_35 : decode cX8_lack 35 = .ok (.istore_n 3, 1) := by decide +kernel
theorem dX8_lack_36 : decode cX8_lack 36 = .ok (.iload_n 1, 1) := by decide +kernel
theorem dX8_lack_37 : decode cX8_lack 37 = .ok (.istore 4, 2) := by decide +kernel
theorem dX8_lack_39 : decode cX8_lack 39 = .ok (.iload 4, 2) := by decide +kernel
theorem dX8_lack_41 : decode cX8_lack 41 = .ok (.aload_n 0, 1) := by decide +kernel
theorem dX8_lack_42 : decode cX8_lack 42 = .ok (.getfield 41, 3) := by decide +kernel
theorem dX8_lack_45 : decode cX8_lack 45 = .ok (.if_icmp .ge 53, 3) := by decide +kernel
theorem dX8_lack_48 : decode cX8_lack 48 = .ok (.iload_n 3, 1) := by decide +kernel
theorem dX8_lack_49 : decode cX8_lack 49 = .ok (.aload_n 0, 1) := by decide +kernel
theorem dX8_lack_50 : decode cX8_lack 50 = .ok (.getfield 83, 3) := by decide +kernel
theorem dX8_lack_53 : decode cX8_lack 53 = .ok (.iload 4, 2) := by decide +kernel
theorem dX8_lack_55 : decode cX8_lack 55 = .ok (.baload, 1) := by decide +kernel
theorem dX8_lack_56 : decode cX8_lack 56 = .ok (.ifCond .eq 33, 3) := by decide +kernel
theorem dX8_lack_59 : decode cX8_lack 59 = .ok (.aload_n 0, 1) := by decide +kernel
theorem dX8_lack_60 : decode cX8_lack 60 = .ok (.getfield 50, 3) := by decide +kernel
theorem dX8_lack_63 : decode cX8_lack 63 = .ok (.iload 4, 2) := by decide +kernel
theorem dX8_lack_65 : decode cX8_lack 65 = .ok (.iaload, 1) := by decide +kernel
theorem dX8_lack_66 : decode cX8_lack 66 = .ok (.aload_n 0, 1) := by decide +kernel
theorem dX8_lack_67 : decode cX8_lack 67 = .ok (.getfield 32, 3) := by decide +kernel
theorem dX8_lack_70 : decode cX8_lack 70 = .ok (.iconst 1, 1) := by decide +kernel
theorem dX8_lack_71 : decode cX8_lack 71 = .ok (.isub, 1) := by decide +kernel
theorem dX8_lack_72 : decode cX8_lack 72 = .ok (.if_icmp .ne 17, 3) := by decide +kernel
theorem dX8_lack_75 : decode cX8_lack 75 = .ok (.aload_n 0, 1) := by decide +kernel
theorem dX8_lack_76 : decode cX8_lack 76 = .ok (.getfield 92, 3) := by decide +kernel
theorem dX8_lack_79 : decode cX8_lack 79 = .ok (.iload 4, 2) := by decide +kernel
theorem dX8_lack_81 : decode cX8_lack 81 = .ok (.baload, 1) := by decide +kernel
theorem dX8_lack_82 : decode cX8_lack 82 = .ok (.ifCond .eq 7, 3) := by decide +kernel
theorem dX8_lack_85 : decode cX8_lack 85 = .ok (.iconst 1, 1) := by decide +kernel
theorem dX8_lack_86 : decode cX8_lack 86 = .ok (.goto 4, 3) := by decide +kernel
theorem dX8_lack_89 : decode cX8_lack 89 = .ok (.iconst 0, 1) := by decide +kernel
theorem dX8_lack_90 : decode cX8_lack 90 = .ok (.iadd, 1) := by decide +kernel
theorem dX8_lack_91 : decode cX8_lack 91 = .ok (.istore_n 3, 1) := by decide +kernel
theorem dX8_lack_92 : decode cX8_lack 92 = .ok (.iinc 4 1, 3) := by decide +kernel
theorem dX8_lack_95 : decode cX8_lack 95 = .ok (.goto (-56), 3) := by decide +kernel
theorem dX8_lack_98 : decode cX8_lack 98 = .ok (.iload_n 3, 1) := by decide +kernel
theorem dX8_lack_99 : decode cX8_lack 99 = .ok (.ireturn, 1) := by decide +kernel
theorem dX8_flood_0 : decode cX8_flood 0 = .ok (.aload_n 0, 1) := by decide +kernel
theorem dX8_flood_1 : decode cX8_flood 1 = .ok (.iload_n 1, 1) := by decide +kernel
theorem dX8_flood_2 : decode cX8_flood 2 = .ok (.invokevirtual 200, 3) := by decide +kernel
theorem dX8_flood_5 : decode cX8_flood 5 = .ok (.ifCond .eq 40, 3) := by decide +kernel
theorem dX8_flood_8 : decode cX8_flood 8 = .ok (.aload_n 0, 1) := by decide +kernel
theorem dX8_flood_9 : decode cX8_flood 9 = .ok (.iload_n 2, 1) := by decide +kernel
theorem dX8_flood_10 : decode cX8_flood 10 = .ok (.invokevirtual 140, 3) := by decide +kernel
theorem dX8_flood_13 : decode cX8_flood 13 = .ok (.ifCond .eq 32, 3) := by decide +kernel
theorem dX8_flood_16 : decode cX8_flood 16 = .ok (.iload_n 3, 1) := by decide +kernel
theorem dX8_flood_17 : decode cX8_flood 17 = .ok (.iconst 0, 1) := by decide +kernel
theorem dX8_flood_18 : decode cX8_flood 18 = .ok (.aload_n 0, 1) := by decide +kernel
theorem dX8_flood_19 : decode cX8_flood 19 = .ok (.getfield 17, 3) := by decide +kernel
theorem dX8_flood_22 : decode cX8_flood 22 = .ok (.iload_n 2, 1) := by decide +kernel
theorem dX8_flood_23 : decode cX8_flood 23 = .ok (.iaload, 1) := by decide +kernel
theorem dX8_flood_24 : decode cX8_flood 24 = .ok (.invokestatic 122, 3) := by decide +kernel
theorem dX8_flood_27 : decode cX8_flood 27 = .ok (.ifCond .eq 18, 3) := by decide +kernel
theorem dX8_flood_30 : decode cX8_flood 30 = .ok (.iload 4, 2) := by decide +kernel
theorem dX8_flood_32 : decode cX8_flood 32 = .ok (.iconst 0, 1) := by decide +kernel
theorem dX8_flood_33 : decode cX8_flood 33 = .ok (.aload_n 0, 1) := by decide +kernel
theorem dX8_flood_34 : decode cX8_flood 34 = .ok (.getfield 32, 3) := by decide +kernel
theorem dX8_flood_37 : decode cX8_flood 37 = .ok (.iconst 1, 1) := by decide +kernel
theorem dX8_flood_38 : decode cX8_flood 38 = .ok (.isub, 1) := by decide +kernel
theorem dX8_flood_39 : decode cX8_flood 39 = .ok (.invokestatic 122, 3) := by decide +kernel
theorem dX8_flood_42 : decode cX8_flood 42 = .ok (.ifCond .ne 5, 3) := by decide +kernel
theorem dX8_flood_45 : decode cX8_flood 45 = .ok (.iconst (-1), 1) := by decide +kernel
theorem dX8_flood_46 : decode cX8_flood 46 = .ok (.ireturn, 1) := by decide +kernel
theorem dX8_flood_47 : decode cX8_flood 47 = .ok (.aload_n 0, 1) := by decide +kernel
theorem dX8_flood_48 : decode cX8_flood 48 = .ok (.invokevirtual 151, 3) := by decide +kernel
theorem dX8_flood_51 : decode cX8_flood 51 = .ok (.ifCond .ne 6, 3) := by decide +kernel
theorem dX8_flood_54 : decode cX8_flood 54 = .ok (.bipush (-3), 2) := by decide +kernel
theorem dX8_flood_56 : decode cX8_flood 56 = .ok (.ireturn, 1) := by decide +kernel
theorem dX8_flood_57 : decode cX8_flood 57 = .ok (.aload_n 0, 1) := by decide +kernel
theorem dX8_flood_58 : decode cX8_flood 58 = .ok (.iconst 0, 1) := by decide +kernel
theorem dX8_flood_59 : decode cX8_flood 59 = .ok (.iload_n 1, 1) := by decide +kernel
theorem dX8_flood_60 : decode cX8_flood 60 = .ok (.invokevirtual 218, 3) := by decide +kernel
theorem dX8_flood_63 : decode cX8_flood 63 = .ok (.iconst 0, 1) := by decide +kernel
theorem dX8_flood_64 : decode cX8_flood 64 = .ok (.istore 5, 2) := by decide +kernel
theorem dX8_flood_66 : decode cX8_flood 66 = .ok (.iconst 1, 1) := by decide +kernel
theorem dX8_flood_67 : decode cX8_flood 67 = .ok (.istore 6, 2) := by decide +kernel
theorem dX8_flood_69 : decode cX8_flood 69 = .ok (.iload 6, 2) := by decide +kernel
theorem dX8_flood_71 : decode cX8_flood 71 = .ok (.aload_n 0, 1) := by decide +kernel
theorem dX8_flood_72 : decode cX8_flood 72 = .ok (.getfield 41, 3) := by decide +kernel
theorem dX8_flood_75 : decode cX8_flood 75 = .ok (.if_icmp .ge 61, 3) := by decide +kernel
theorem dX8_flood_78 : decode cX8_flood 78 = .ok (.aload_n 0, 1) := by decide +kernel
theorem dX8_flood_79 : decode cX8_flood 79 = .ok (.getfield 50, 3) := by decide +kernel
theorem dX8_flood_82 : decode cX8_flood 82 = .ok (.iload 6, 2) := by decide +kernel
theorem dX8_flood_84 : decode cX8_flood 84 = .ok (.iaload, 1) := by decide +kernel
theorem dX8_flood_85 : decode cX8_flood 85 = .ok (.iload 4, 2) := by decide +kernel
theorem dX8_flood_87 : decode cX8_flood 87 = .ok (.if_icmp .eq 6, 3) := by decide +kernel
theorem dX8_flood_90 : decode cX8_flood 90 = .ok (.goto 40, 3) := by decide +kernel
theorem dX8_flood_93 : decode cX8_flood 93 = .ok (.aload_n 0, 1) := by decide +kernel
theorem dX8_flood_94 : decode cX8_flood 94 = .ok (.aload_n 0, 1) := by decide +kernel
theorem dX8_flood_95 : decode cX8_flood 95 = .ok (.getfield 86, 3) := by decide +kernel
theorem dX8_flood_98 : decode cX8_flood 98 = .ok (.iload 6, 2) := by decide +kernel
theorem dX8_flood_100 : decode cX8_flood 100 = .ok (.iaload, 1) := by decide +kernel
theorem dX8_flood_101 : decode cX8_flood 101 = .ok (.invokevirtual 164, 3) := by decide +kernel
theorem dX8_flood_104 : decode cX8_flood 104 = .ok (.iload 5, 2) := by decide +kernel
theorem dX8_flood_106 : decode cX8_flood 106 = .ok (.aload_n 0, 1) := by decide +kernel
theorem dX8_flood_107 : decode cX8_flood 107 = .ok (.getfield 56, 3) := by decide +kernel
theorem dX8_flood_110 : decode cX8_flood 110 = .ok (.iload_n 2, 1) := by decide +kernel
theorem dX8_flood_111 : decode cX8_flood 111 = .ok (.iaload, 1) := by decide +kernel
theorem dX8_flood_112 : decode cX8_flood 112 = .ok (.iload_n 3, 1) := by decide +kernel
theorem dX8_flood_113 : decode cX8_flood 113 = .ok (.if_icmp .le 13, 3) := by decide +kernel
theorem dX8_flood_116 : decode cX8_flood 116 = .ok (.aload_n 0, 1) := by decide +kernel
theorem dX8_flood_117 : decode cX8_flood 117 = .ok (.getfield 98, 3) := by decide +kernel
theorem dX8_flood_120 : decode cX8_flood 120 = .ok (.iload 6, 2) := by decide +kernel
theorem dX8_flood_122 : decode cX8_flood 122 = .ok (.iaload, 1) := by decide +kernel
theorem dX8_flood_123 : decode cX8_flood 123 = .ok (.goto 4, 3) := by decide +kernel
theorem dX8_flood_126 : decode cX8_flood 126 = .ok (.iconst 0, 1) := by decide +kernel
theorem dX8_flood_127 : decode cX8_flood 127 = .ok (.iadd, 1) := by decide +kernel
theorem dX8_flood_128 : decode cX8_flood 128 = .ok (.istore 5, 2) := by decide +kernel
theorem dX8_flood_130 : decode cX8_flood 130 = .ok (.iinc 6 1, 3) := by decide +kernel
theorem dX8_flood_133 : decode cX8_flood 133 = .ok (.goto (-64), 3) := by decide +kernel
theorem dX8_flood_136 : decode cX8_flood 136 = .ok (.iload 5, 2) := by decide +kernel
theorem dX8_flood_138 : decode cX8_flood 138 = .ok (.ireturn, 1) := by decide +kernel
theorem dX8_cases_0 : decode cX8_cases 0 = .ok (.aload_n 0, 1) := by decide +kernel
theorem dX8_cases_1 : decode cX8_cases 1 = .ok (.iload_n 1, 1) := by decide +kernel
theorem dX8_cases_2 : decode cX8_cases 2 = .ok (.invokevirtual 144, 3) := by decide +kernel
theorem dX8_cases_5 : decode cX8_cases 5 = .ok (.ifCond .ne 5, 3) := by decide +kernel
theorem dX8_cases_8 : decode cX8_cases 8 = .ok (.iconst (-1), 1) := by decide +kernel
theorem dX8_cases_9 : decode cX8_cases 9 = .ok (.ireturn, 1) := by decide +kernel
theorem dX8_cases_10 : decode cX8_cases 10 = .ok (.aload_n 0, 1) := by decide +kernel
theorem dX8_cases_11 : decode cX8_cases 11 = .ok (.invokevirtual 151, 3) := by decide +kernel
theorem dX8_cases_14 : decode cX8_cases 14 = .ok (.ifCond .ne 6, 3) := by decide +kernel
theorem dX8_cases_17 : decode cX8_cases 17 = .ok (.bipush (-3), 2) := by decide +kernel
theorem dX8_cases_19 : decode cX8_cases 19 = .ok (.ireturn, 1) := by decide +kernel
theorem dX8_cases_20 : decode cX8_cases 20 = .ok (.aload_n 0, 1) := by decide +kernel
theorem dX8_cases_21 : decode cX8_cases 21 = .ok (.iload_n 1, 1) := by decide +kernel
theorem dX8_cases_22 : decode cX8_cases 22 = .ok (.iconst 0, 1) := by decide +kernel
theorem dX8_cases_23 : decode cX8_cases 23 = .ok (.invokevirtual 218, 3) := by decide +kernel
theorem dX8_cases_26 : decode cX8_cases 26 = .ok (.aload_n 0, 1) := by decide +kernel
theorem dX8_cases_27 : decode cX8_cases 27 = .ok (.getfield 98, 3) := by decide +kernel
theorem dX8_cases_30 : decode cX8_cases 30 = .ok (.iload_n 1, 1) := by decide +kernel
theorem dX8_cases_31 : decode cX8_cases 31 = .ok (.iaload, 1) := by decide +kernel
theorem dX8_cases_32 : decode cX8_cases 32 = .ok (.ireturn, 1) := by decide +kernel
theorem dX8_begin_0 : decode cX8_begin 0 = .ok (.aload_n 0, 1) := by decide +kernel
theorem dX8_begin_1 : decode cX8_begin 1 = .ok (.iload_n 1, 1) := by decide +kernel
theorem dX8_begin_2 : decode cX8_begin 2 = .ok (.invokevirtual 200, 3) := by decide +kernel
theorem dX8_begin_5 : decode cX8_begin 5 = .ok (.ifCond .ne 5, 3) := by decide +kernel
theorem dX8_begin_8 : decode cX8_begin 8 = .ok (.iconst (-1), 1) := by decide +kernel
theorem dX8_begin_9 : decode cX8_begin 9 = .ok (.ireturn, 1) := by decide +kernel
theorem dX8_begin_10 : decode cX8_begin 10 = .ok (.aload_n 0, 1) := by decide +kernel
theorem dX8_begin_11 : decode cX8_begin 11 = .ok (.invokevirtual 151, 3) := by decide +kernel
theorem dX8_begin_14 : decode cX8_begin 14 = .ok (.ifCond .ne 6, 3) := by decide +kernel
theorem dX8_begin_17 : decode cX8_begin 17 = .ok (.bipush (-3), 2) := by decide +kernel
theorem dX8_begin_19 : decode cX8_begin 19 = .ok (.ireturn, 1) := by decide +kernel
theorem dX8_begin_20 : decode cX8_begin 20 = .ok (.aload_n 0, 1) := by decide +kernel
theorem dX8_begin_21 : decode cX8_begin 21 = .ok (.iconst 1, 1) := by decide +kernel
theorem dX8_begin_22 : decode cX8_begin 22 = .ok (.putfield 134, 3) := by decide +kernel
theorem dX8_begin_25 : decode cX8_begin 25 = .ok (.aload_n 0, 1) := by decide +kernel
theorem dX8_begin_26 : decode cX8_begin 26 = .ok (.iconst 0, 1) := by decide +kernel
theorem dX8_begin_27 : decode cX8_begin 27 = .ok (.putfield 221, 3) := by decide +kernel
theorem dX8_begin_30 : decode cX8_begin 30 = .ok (.aload_n 0, 1) := by decide +kernel
theorem dX8_begin_31 : decode cX8_begin 31 = .ok (.getfield 101, 3) := by decide +kernel
theorem dX8_begin_34 : decode cX8_begin 34 = .ok (.iconst 0, 1) := by decide +kernel
theorem dX8_begin_35 : decode cX8_begin 35 = .ok (.iconst 0, 1) := by decide +kernel
theorem dX8_begin_36 : decode cX8_begin 36 = .ok (.iastore, 1) := by decide +kernel
theorem dX8_begin_37 : decode cX8_begin 37 = .ok (.aload_n 0, 1) := by decide +kernel
theorem dX8_begin_38 : decode cX8_begin 38 = .ok (.getfield 104, 3) := by decide +kernel
theorem dX8_begin_41 : decode cX8_begin 41 = .ok (.iconst 0, 1) := by decide +kernel
theorem dX8_begin_42 : decode cX8_begin 42 = .ok (.iload_n 1, 1) := by decide +kernel
theorem dX8_begin_43 : decode cX8_begin 43 = .ok (.iastore, 1) := by decide +kernel
theorem dX8_begin_44 : decode cX8_begin 44 = .ok (.aload_n 0, 1) := by decide +kernel
theorem dX8_begin_45 : decode cX8_begin 45 = .ok (.getfield 107, 3) := by decide +kernel
theorem dX8_begin_48 : decode cX8_begin 48 = .ok (.iconst 0, 1) := by decide +kernel
theorem dX8_begin_49 : decode cX8_begin 49 = .ok (.iconst 0, 1) := by decide +kernel
theorem dX8_begin_50 : decode cX8_begin 50 = .ok (.iastore, 1) := by decide +kernel
theorem dX8_begin_51 : decode cX8_begin 51 = .ok (.aload_n 0, 1) := by decide +kernel
theorem dX8_begin_52 : decode cX8_begin 52 = .ok (.getfield 110, 3) := by decide +kernel
theorem dX8_begin_55 : decode cX8_begin 55 = .ok (.iconst 0, 1) := by decide +kernel
theorem dX8_begin_56 : decode cX8_begin 56 = .ok (.iconst 0, 1) := by decide +kernel
theorem dX8_begin_57 : decode cX8_begin 57 = .ok (.iastore, 1) := by decide +kernel
theorem dX8_begin_58 : decode cX8_begin 58 = .ok (.aload_n 0, 1) := by decide +kernel
theorem dX8_begin_59 : decode cX8_begin 59 = .ok (.getfield 113, 3) := by decide +kernel
theorem dX8_begin_62 : decode cX8_begin 62 = .ok (.iconst 0, 1) := by decide +kernel
theorem dX8_begin_63 : decode cX8_begin 63 = .ok (.iconst 0, 1) := by decide +kernel
theorem dX8_begin_64 : decode cX8_begin 64 = .ok (.iastore, 1) := by decide +kernel
theorem dX8_begin_65 : decode cX8_begin 65 = .ok (.aload_n 0, 1) := by decide +kernel
theorem dX8_begin_66 : decode cX8_begin 66 = .ok (.getfield 116, 3) := by decide +kernel
theorem dX8_begin_69 : decode cX8_begin 69 = .ok (.iconst 0, 1) := by decide +kernel
theorem dX8_begin_70 : decode cX8_begin 70 = .ok (.iconst 0, 1) := by decide +kernel
theorem dX8_begin_71 : decode cX8_begin 71 = .ok (.iastore, 1) := by decide +kernel
theorem dX8_begin_72 : decode cX8_begin 72 = .ok (.iconst 1, 1) := by decide +kernel
theorem dX8_begin_73 : decode cX8_begin 73 = .ok (.ireturn, 1) := by decide +kernel
theorem dX8_child_0 : decode cX8_child 0 = .ok (.iload_n 2, 1) := by decide +kernel
theorem dX8_child_1 : decode cX8_child 1 = .ok (.istore_n 3, 1) := by decide +kernel
theorem dX8_child_2 : decode cX8_child 2 = .ok (.iload_n 1, 1) := by decide +kernel
theorem dX8_child_3 : decode cX8_child 3 = .ok (.iconst 1, 1) := by decide +kernel
theorem dX8_child_4 : decode cX8_child 4 = .ok (.iadd, 1) := by decide +kernel
theorem dX8_child_5 : decode cX8_child 5 = .ok (.istore 4, 2) := by decide +kernel
theorem dX8_child_7 : decode cX8_child 7 = .ok (.iload 4, 2) := by decide +kernel
theorem dX8_child_9 : decode cX8_child 9 = .ok (.aload_n 0, 1) := by decide +kernel
theorem dX8_child_10 : decode cX8_child 10 = .ok (.getfield 41, 3) := by decide +kernel
theorem dX8_child_13 : decode cX8_child 13 = .ok (.if_icmp .ge 37, 3) := by decide +kernel
theorem dX8_child_16 : decode cX8_child 16 = .ok (.iload_n 2, 1) := by decide +kernel
theorem dX8_child_17 : decode cX8_child 17 = .ok (.ifCond .lt 33, 3) := by decide +kernel
theorem dX8_child_20 : decode cX8_child 20 = .ok (.aload_n 0, 1) := by decide +kernel
theorem dX8_child_21 : decode cX8_child 21 = .ok (.getfield 44, 3) := by decide +kernel
theorem dX8_child_24 : decode cX8_child 24 = .ok (.iload 4, 2) := by decide +kernel
theorem dX8_child_26 : decode cX8_child 26 = .ok (.iaload, 1) := by decide +kernel
theorem dX8_child_27 : decode cX8_child 27 = .ok (.iload_n 1, 1) := by decide +kernel
theorem dX8_child_28 : decode cX8_child 28 = .ok (.if_icmp .eq 6, 3) := by decide +kernel
theorem dX8_child_31 : decode cX8_child 31 = .ok (.goto 13, 3) := by decide +kernel
theorem dX8_child_34 : decode cX8_child 34 = .ok (.iload_n 3, 1) := by decide +kernel
theorem dX8_child_35 : decode cX8_child 35 = .ok (.ifCond .ne 6, 3) := by decide +kernel
theorem dX8_child_38 : decode cX8_child 38 = .ok (.iload 4, 2) := by decide +kernel
theorem dX8_child_40 : decode cX8_child 40 = .ok (.ireturn, 1) := by decide +kernel
theorem dX8_child_41 : decode cX8_child 41 = .ok (.iinc 3 (-1), 3) := by decide +kernel
theorem dX8_child_44 : decode cX8_child 44 = .ok (.iinc 4 1, 3) := by decide +kernel
theorem dX8_child_47 : decode cX8_child 47 = .ok (.goto (-40), 3) := by decide +kernel
theorem dX8_child_50 : decode cX8_child 50 = .ok (.iconst (-1), 1) := by decide +kernel
theorem dX8_child_51 : decode cX8_child 51 = .ok (.ireturn, 1) := by decide +kernel
theorem dX8_refused_0 : decode cX8_refused 0 = .ok (.aload_n 0, 1) := by decide +kernel
theorem dX8_refused_1 : decode cX8_refused 1 = .ok (.getfield 134, 3) := by decide +kernel
theorem dX8_refused_4 : decode cX8_refused 4 = .ok (.ifCond .ne 8, 3) := by decide +kernel
theorem dX8_refused_7 : decode cX8_refused 7 = .ok (.bipush (-6), 2) := by decide +kernel
theorem dX8_refused_9 : decode cX8_refused 9 = .ok (.goto 32, 3) := by decide +kernel
theorem dX8_refused_12 : decode cX8_refused 12 = .ok (.aload_n 0, 1) := by decide +kernel
theorem dX8_refused_13 : decode cX8_refused 13 = .ok (.getfield 50, 3) := by decide +kernel
theorem dX8_refused_16 : decode cX8_refused 16 = .ok (.aload_n 0, 1) := by decide +kernel
theorem dX8_refused_17 : decode cX8_refused 17 = .ok (.getfield 101, 3) := by decide +kernel
theorem dX8_refused_20 : decode cX8_refused 20 = .ok (.aload_n 0, 1) := by decide +kernel
theorem dX8_refused_21 : decode cX8_refused 21 = .ok (.getfield 221, 3) := by decide +kernel
theorem dX8_refused_24 : decode cX8_refused 24 = .ok (.iaload, 1) := by decide +kernel
theorem dX8_refused_25 : decode cX8_refused 25 = .ok (.iaload, 1) := by decide +kernel
theorem dX8_refused_26 : decode cX8_refused 26 = .ok (.aload_n 0, 1) := by decide +kernel
theorem dX8_refused_27 : decode cX8_refused 27 = .ok (.getfield 32, 3) := by decide +kernel
theorem dX8_refused_30 : decode cX8_refused 30 = .ok (.iconst 1, 1) := by decide +kernel
theorem dX8_refused_31 : decode cX8_refused 31 = .ok (.isub, 1) := by decide +kernel
theorem dX8_refused_32 : decode cX8_refused 32 = .ok (.if_icmp .ne 8, 3) := by decide +kernel
theorem dX8_refused_35 : decode cX8_refused 35 = .ok (.bipush (-4), 2) := by decide +kernel
theorem dX8_refused_37 : decode cX8_refused 37 = .ok (.goto 4, 3) := by decide +kernel
theorem dX8_refused_40 : decode cX8_refused 40 = .ok (.iconst 0, 1) := by decide +kernel
theorem dX8_refused_41 : decode cX8_refused 41 = .ok (.ireturn, 1) := by decide +kernel
theorem dX8_goes_0 : decode cX8_goes 0 = .ok (.aload_n 0, 1) := by decide +kernel
theorem dX8_goes_1 : decode cX8_goes 1 = .ok (.aload_n 0, 1) := by decide +kernel
theorem dX8_goes_2 : decode cX8_goes 2 = .ok (.getfield 104, 3) := by decide +kernel
theorem dX8_goes_5 : decode cX8_goes 5 = .ok (.aload_n 0, 1) := by decide +kernel
theorem dX8_goes_6 : decode cX8_goes 6 = .ok (.getfield 221, 3) := by decide +kernel
theorem dX8_goes_9 : decode cX8_goes 9 = .ok (.iaload, 1) := by decide +kernel
theorem dX8_goes_10 : decode cX8_goes 10 = .ok (.invokevirtual 164, 3) := by decide +kernel
theorem dX8_goes_13 : decode cX8_goes 13 = .ok (.aload_n 0, 1) := by decide +kernel
theorem dX8_goes_14 : decode cX8_goes 14 = .ok (.aload_n 0, 1) := by decide +kernel
theorem dX8_goes_15 : decode cX8_goes 15 = .ok (.getfield 50, 3) := by decide +kernel
theorem dX8_goes_18 : decode cX8_goes 18 = .ok (.iload_n 1, 1) := by decide +kernel
theorem dX8_goes_19 : decode cX8_goes 19 = .ok (.iaload, 1) := by decide +kernel
theorem dX8_goes_20 : decode cX8_goes 20 = .ok (.invokevirtual 191, 3) := by decide +kernel
theorem dX8_goes_23 : decode cX8_goes 23 = .ok (.istore_n 2, 1) := by decide +kernel
theorem dX8_goes_24 : decode cX8_goes 24 = .ok (.aload_n 0, 1) := by decide +kernel
theorem dX8_goes_25 : decode cX8_goes 25 = .ok (.iload_n 1, 1) := by decide +kernel
theorem dX8_goes_26 : decode cX8_goes 26 = .ok (.invokevirtual 178, 3) := by decide +kernel
theorem dX8_goes_29 : decode cX8_goes 29 = .ok (.istore_n 3, 1) := by decide +kernel
theorem dX8_goes_30 : decode cX8_goes 30 = .ok (.iconst 0, 1) := by decide +kernel
theorem dX8_goes_31 : decode cX8_goes 31 = .ok (.istore 4, 2) := by decide +kernel
theorem dX8_goes_33 : decode cX8_goes 33 = .ok (.iconst 0, 1) := by decide +kernel
theorem dX8_goes_34 : decode cX8_goes 34 = .ok (.istore 5, 2) := by decide +kernel
theorem dX8_goes_36 : decode cX8_goes 36 = .ok (.iload 5, 2) := by decide +kernel
theorem dX8_goes_38 : decode cX8_goes 38 = .ok (.aload_n 0, 1) := by decide +kernel
theorem dX8_goes_39 : decode cX8_goes 39 = .ok (.getfield 119, 3) := by decide +kernel
theorem dX8_goes_42 : decode cX8_goes 42 = .ok (.if_icmp .ge 25, 3) := by decide +kernel
theorem dX8_goes_45 : decode cX8_goes 45 = .ok (.iload 4, 2) := by decide +kernel
theorem dX8_goes_47 : decode cX8_goes 47 = .ok (.aload_n 0, 1) := by decide +kernel
theorem dX8_goes_48 : decode cX8_goes 48 = .ok (.getfield 53, 3) := by decide +kernel
theorem dX8_goes_51 : decode cX8_goes 51 = .ok (.iconst 3, 1) := by decide +kernel
theorem dX8_goes_52 : decode cX8_goes 52 = .ok (.iload_n 1, 1) := by decide +kernel
theorem dX8_goes_53 : decode cX8_goes 53 = .ok (.imul, 1) := by decide +kernel
theorem dX8_goes_54 : decode cX8_goes 54 = .ok (.iload 5, 2) := by decide +kernel
theorem dX8_goes_56 : decode cX8_goes 56 = .ok (.iadd, 1) := by decide +kernel
theorem dX8_goes_57 : decode cX8_goes 57 = .ok (.iaload, 1) := by decide +kernel
theorem dX8_goes_58 : decode cX8_goes 58 = .ok (.iadd, 1) := by decide +kernel
theorem dX8_goes_59 : decode cX8_goes 59 = .ok (.istore 4, 2) := by decide +kernel
theorem dX8_goes_61 : decode cX8_goes 61 = .ok (.iinc 5 1, 3) := by decide +kernel
theorem dX8_goes_64 : decode cX8_goes 64 = .ok (.goto (-28), 3) := by decide +kernel
theorem dX8_goes_67 : decode cX8_goes 67 = .ok (.aload_n 0, 1) := by decide +kernel
theorem dX8_goes_68 : decode cX8_goes 68 = .ok (.getfield 101, 3) := by decide +kernel
theorem dX8_goes_71 : decode cX8_goes 71 = .ok (.aload_n 0, 1) := by decide +kernel
theorem dX8_goes_72 : decode cX8_goes 72 = .ok (.getfield 221, 3) := by decide +kernel
theorem dX8_goes_75 : decode cX8_goes 75 = .ok (.iconst 1, 1) := by decide +kernel
theorem dX8_goes_76 : decode cX8_goes 76 = .ok (.iadd, 1) := by decide +kernel
theorem dX8_goes_77 : decode cX8_goes 77 = .ok (.iload_n 1, 1) := by decide +kernel
theorem dX8_goes_78 : decode cX8_goes 78 = .ok (.iastore, 1) := by decide +kernel
theorem dX8_goes_79 : decode cX8_goes 79 = .ok (.aload_n 0, 1) := by decide +kernel
theorem dX8_goes_80 : decode cX8_goes 80 = .ok (.getfield 104, 3) := by decide +kernel
theorem dX8_goes_83 : decode cX8_goes 83 = .ok (.aload_n 0, 1) := by decide +kernel
theorem dX8_goes_84 : decode cX8_goes 84 = .ok (.getfield 221, 3) := by decide +kernel
theorem dX8_goes_87 : decode cX8_goes 87 = .ok (.iconst 1, 1) := by decide +kernel
theorem dX8_goes_88 : decode cX8_goes 88 = .ok (.iadd, 1) := by decide +kernel
theorem dX8_goes_89 : decode cX8_goes 89 = .ok (.iload_n 3, 1) := by decide +kernel
theorem dX8_goes_90 : decode cX8_goes 90 = .ok (.iastore, 1) := by decide +kernel
theorem dX8_goes_91 : decode cX8_goes 91 = .ok (.aload_n 0, 1) := by decide +kernel
theorem dX8_goes_92 : decode cX8_goes 92 = .ok (.getfield 107, 3) := by decide +kernel
theorem dX8_goes_95 : decode cX8_goes 95 = .ok (.aload_n 0, 1) := by decide +kernel
theorem dX8_goes_96 : decode cX8_goes 96 = .ok (.getfield 221, 3) := by decide +kernel
theorem dX8_goes_99 : decode cX8_goes 99 = .ok (.iconst 1, 1) := by decide +kernel
theorem dX8_goes_100 : decode cX8_goes 100 = .ok (.iadd, 1) := by decide +kernel
theorem dX8_goes_101 : decode cX8_goes 101 = .ok (.aload_n 0, 1) := by decide +kernel
theorem dX8_goes_102 : decode cX8_goes 102 = .ok (.getfield 107, 3) := by decide +kernel
theorem dX8_goes_105 : decode cX8_goes 105 = .ok (.aload_n 0, 1) := by decide +kernel
theorem dX8_goes_106 : decode cX8_goes 106 = .ok (.getfield 221, 3) := by decide +kernel
theorem dX8_goes_109 : decode cX8_goes 109 = .ok (.iaload, 1) := by decide +kernel
theorem dX8_goes_110 : decode cX8_goes 110 = .ok (.iload_n 2, 1) := by decide +kernel
theorem dX8_goes_111 : decode cX8_goes 111 = .ok (.iadd, 1) := by decide +kernel
theorem dX8_goes_112 : decode cX8_goes 112 = .ok (.iastore, 1) := by decide +kernel
theorem dX8_goes_113 : decode cX8_goes 113 = .ok (.aload_n 0, 1) := by decide +kernel
theorem dX8_goes_114 : decode cX8_goes 114 = .ok (.getfield 110, 3) := by decide +kernel
theorem dX8_goes_117 : decode cX8_goes 117 = .ok (.aload_n 0, 1) := by decide +kernel
theorem dX8_goes_118 : decode cX8_goes 118 = .ok (.getfield 221, 3) := by decide +kernel
theorem dX8_goes_121 : decode cX8_goes 121 = .ok (.iconst 1, 1) := by decide +kernel
theorem dX8_goes_122 : decode cX8_goes 122 = .ok (.iadd, 1) := by decide +kernel
theorem dX8_goes_123 : decode cX8_goes 123 = .ok (.aload_n 0, 1) := by decide +kernel
theorem dX8_goes_124 : decode cX8_goes 124 = .ok (.getfield 110, 3) := by decide +kernel
theorem dX8_goes_127 : decode cX8_goes 127 = .ok (.aload_n 0, 1) := by decide +kernel
theorem dX8_goes_128 : decode cX8_goes 128 = .ok (.getfield 221, 3) := by decide +kernel
theorem dX8_goes_131 : decode cX8_goes 131 = .ok (.iaload, 1) := by decide +kernel
theorem dX8_goes_132 : decode cX8_goes 132 = .ok (.aload_n 0, 1) := by decide +kernel
theorem dX8_goes_133 : decode cX8_goes 133 = .ok (.getfield 158, 3) := by decide +kernel
theorem dX8_goes_136 : decode cX8_goes 136 = .ok (.iadd, 1) := by decide +kernel
theorem dX8_goes_137 : decode cX8_goes 137 = .ok (.iastore, 1) := by decide +kernel
theorem dX8_goes_138 : decode cX8_goes 138 = .ok (.aload_n 0, 1) := by decide +kernel
theorem dX8_goes_139 : decode cX8_goes 139 = .ok (.getfield 113, 3) := by decide +kernel
theorem dX8_goes_142 : decode cX8_goes 142 = .ok (.aload_n 0, 1) := by decide +kernel
theorem dX8_goes_143 : decode cX8_goes 143 = .ok (.getfield 221, 3) := by decide +kernel
theorem dX8_goes_146 : decode cX8_goes 146 = .ok (.iconst 1, 1) := by decide +kernel
theorem dX8_goes_147 : decode cX8_goes 147 = .ok (.iadd, 1) := by decide +kernel
theorem dX8_goes_148 : decode cX8_goes 148 = .ok (.aload_n 0, 1) := by decide +kernel
theorem dX8_goes_149 : decode cX8_goes 149 = .ok (.getfield 113, 3) := by decide +kernel
theorem dX8_goes_152 : decode cX8_goes 152 = .ok (.aload_n 0, 1) := by decide +kernel
theorem dX8_goes_153 : decode cX8_goes 153 = .ok (.getfield 221, 3) := by decide +kernel
theorem dX8_goes_156 : decode cX8_goes 156 = .ok (.iaload, 1) := by decide +kernel
theorem dX8_goes_157 : decode cX8_goes 157 = .ok (.aload_n 0, 1) := by decide +kernel
theorem dX8_goes_158 : decode cX8_goes 158 = .ok (.getfield 59, 3) := by decide +kernel
theorem dX8_goes_161 : decode cX8_goes 161 = .ok (.aload_n 0, 1) := by decide +kernel
theorem dX8_goes_162 : decode cX8_goes 162 = .ok (.getfield 119, 3) := by decide +kernel
theorem dX8_goes_165 : decode cX8_goes 165 = .ok (.iconst 1, 1) := by decide +kernel
theorem dX8_goes_166 : decode cX8_goes 166 = .ok (.isub, 1) := by decide +kernel
theorem dX8_goes_167 : decode cX8_goes 167 = .ok (.iaload, 1) := by decide +kernel
theorem dX8_goes_168 : decode cX8_goes 168 = .ok (.iadd, 1) := by decide +kernel
theorem dX8_goes_169 : decode cX8_goes 169 = .ok (.iastore, 1) := by decide +kernel
theorem dX8_goes_170 : decode cX8_goes 170 = .ok (.aload_n 0, 1) := by decide +kernel
theorem dX8_goes_171 : decode cX8_goes 171 = .ok (.getfield 116, 3) := by decide +kernel
theorem dX8_goes_174 : decode cX8_goes 174 = .ok (.aload_n 0, 1) := by decide +kernel
theorem dX8_goes_175 : decode cX8_goes 175 = .ok (.getfield 221, 3) := by decide +kernel
theorem dX8_goes_178 : decode cX8_goes 178 = .ok (.iconst 1, 1) := by decide +kernel
theorem dX8_goes_179 : decode cX8_goes 179 = .ok (.iadd, 1) := by decide +kernel
theorem dX8_goes_180 : decode cX8_goes 180 = .ok (.aload_n 0, 1) := by decide +kernel
theorem dX8_goes_181 : decode cX8_goes 181 = .ok (.getfield 116, 3) := by decide +kernel
theorem dX8_goes_184 : decode cX8_goes 184 = .ok (.aload_n 0, 1) := by decide +kernel
theorem dX8_goes_185 : decode cX8_goes 185 = .ok (.getfield 221, 3) := by decide +kernel
theorem dX8_goes_188 : decode cX8_goes 188 = .ok (.iaload, 1) := by decide +kernel
theorem dX8_goes_189 : decode cX8_goes 189 = .ok (.iload 4, 2) := by decide +kernel
theorem dX8_goes_191 : decode cX8_goes 191 = .ok (.iadd, 1) := by decide +kernel
theorem dX8_goes_192 : decode cX8_goes 192 = .ok (.iastore, 1) := by decide +kernel
theorem dX8_goes_193 : decode cX8_goes 193 = .ok (.aload_n 0, 1) := by decide +kernel
theorem dX8_goes_194 : decode cX8_goes 194 = .ok (.dup, 1) := by decide +kernel
theorem dX8_goes_195 : decode cX8_goes 195 = .ok (.getfield 221, 3) := by decide +kernel
theorem dX8_goes_198 : decode cX8_goes 198 = .ok (.iconst 1, 1) := by decide +kernel
theorem dX8_goes_199 : decode cX8_goes 199 = .ok (.iadd, 1) := by decide +kernel
theorem dX8_goes_200 : decode cX8_goes 200 = .ok (.putfield 221, 3) := by decide +kernel
theorem dX8_goes_203 : decode cX8_goes 203 = .ok (.iload_n 2, 1) := by decide +kernel
theorem dX8_goes_204 : decode cX8_goes 204 = .ok (.ireturn, 1) := by decide +kernel
theorem dX8_week_0 : decode cX8_week 0 = .ok (.aload_n 0, 1) := by decide +kernel
theorem dX8_week_1 : decode cX8_week 1 = .ok (.invokevirtual 224, 3) := by decide +kernel
theorem dX8_week_4 : decode cX8_week 4 = .ok (.istore_n 3, 1) := by decide +kernel
theorem dX8_week_5 : decode cX8_week 5 = .ok (.iload_n 3, 1) := by decide +kernel
theorem dX8_week_6 : decode cX8_week 6 = .ok (.ifCond .ge 5, 3) := by decide +kernel
theorem dX8_week_9 : decode cX8_week 9 = .ok (.iload_n 3, 1) := by decide +kernel
theorem dX8_week_10 : decode cX8_week 10 = .ok (.ireturn, 1) := by decide +kernel
theorem dX8_week_11 : decode cX8_week 11 = .ok (.aload_n 0, 1) := by decide +kernel
theorem dX8_week_12 : decode cX8_week 12 = .ok (.aload_n 0, 1) := by decide +kernel
theorem dX8_week_13 : decode cX8_week 13 = .ok (.getfield 101, 3) := by decide +kernel
theorem dX8_week_16 : decode cX8_week 16 = .ok (.aload_n 0, 1) := by decide +kernel
theorem dX8_week_17 : decode cX8_week 17 = .ok (.getfield 221, 3) := by decide +kernel
theorem dX8_week_20 : decode cX8_week 20 = .ok (.iaload, 1) := by decide +kernel
theorem dX8_week_21 : decode cX8_week 21 = .ok (.iload_n 2, 1) := by decide +kernel
theorem dX8_week_22 : decode cX8_week 22 = .ok (.invokevirtual 227, 3) := by decide +kernel
theorem dX8_week_25 : decode cX8_week 25 = .ok (.istore 4, 2) := by decide +kernel
theorem dX8_week_27 : decode cX8_week 27 = .ok (.iload 4, 2) := by decide +kernel
theorem dX8_week_29 : decode cX8_week 29 = .ok (.ifCond .lt 18, 3) := by decide +kernel
theorem dX8_week_32 : decode cX8_week 32 = .ok (.iload_n 1, 1) := by decide +kernel
theorem dX8_week_33 : decode cX8_week 33 = .ok (.ifCond .lt 14, 3) := by decide +kernel
theorem dX8_week_36 : decode cX8_week 36 = .ok (.iload_n 1, 1) := by decide +kernel
theorem dX8_week_37 : decode cX8_week 37 = .ok (.iconst 4, 1) := by decide +kernel
theorem dX8_week_38 : decode cX8_week 38 = .ok (.aload_n 0, 1) := by decide +kernel
theorem dX8_week_39 : decode cX8_week 39 = .ok (.getfield 119, 3) := by decide +kernel
theorem dX8_week_42 : decode cX8_week 42 = .ok (.imul, 1) := by decide +kernel
theorem dX8_week_43 : decode cX8_week 43 = .ok (.ishr, 1) := by decide +kernel
theorem dX8_week_44 : decode cX8_week 44 = .ok (.ifCond .eq 5, 3) := by decide +kernel
theorem dX8_week_47 : decode cX8_week 47 = .ok (.iconst (-1), 1) := by decide +kernel
theorem dX8_week_48 : decode cX8_week 48 = .ok (.ireturn, 1) := by decide +kernel
theorem dX8_week_49 : decode cX8_week 49 = .ok (.aload_n 0, 1) := by decide +kernel
theorem dX8_week_50 : decode cX8_week 50 = .ok (.aload_n 0, 1) := by decide +kernel
theorem dX8_week_51 : decode cX8_week 51 = .ok (.getfield 104, 3) := by decide +kernel
theorem dX8_week_54 : decode cX8_week 54 = .ok (.aload_n 0, 1) := by decide +kernel
theorem dX8_week_55 : decode cX8_week 55 = .ok (.getfield 221, 3) := by decide +kernel
theorem dX8_week_58 : decode cX8_week 58 = .ok (.iaload, 1) := by decide +kernel
theorem dX8_week_59 : decode cX8_week 59 = .ok (.invokevirtual 164, 3) := by decide +kernel
theorem dX8_week_62 : decode cX8_week 62 = .ok (.iconst 0, 1) := by decide +kernel
theorem dX8_week_63 : decode cX8_week 63 = .ok (.istore 5, 2) := by decide +kernel
theorem dX8_week_65 : decode cX8_week 65 = .ok (.iload 5, 2) := by decide +kernel
theorem dX8_week_67 : decode cX8_week 67 = .ok (.aload_n 0, 1) := by decide +kernel
theorem dX8_week_68 : decode cX8_week 68 = .ok (.getfield 119, 3) := by decide +kernel
theorem dX8_week_71 : decode cX8_week 71 = .ok (.if_icmp .ge 59, 3) := by decide +kernel
theorem dX8_week_74 : decode cX8_week 74 = .ok (.aload_n 0, 1) := by decide +kernel
theorem dX8_week_75 : decode cX8_week 75 = .ok (.getfield 59, 3) := by decide +kernel
theorem dX8_week_78 : decode cX8_week 78 = .ok (.iload 5, 2) := by decide +kernel
theorem dX8_week_80 : decode cX8_week 80 = .ok (.iload_n 1, 1) := by decide +kernel
theorem dX8_week_81 : decode cX8_week 81 = .ok (.iconst 4, 1) := by decide +kernel
theorem dX8_week_82 : decode cX8_week 82 = .ok (.aload_n 0, 1) := by decide +kernel
theorem dX8_week_83 : decode cX8_week 83 = .ok (.getfield 119, 3) := by decide +kernel
theorem dX8_week_86 : decode cX8_week 86 = .ok (.iconst 1, 1) := by decide +kernel
theorem dX8_week_87 : decode cX8_week 87 = .ok (.isub, 1) := by decide +kernel
theorem dX8_week_88 : decode cX8_week 88 = .ok (.iload 5, 2) := by decide +kernel
theorem dX8_week_90 : decode cX8_week 90 = .ok (.isub, 1) := by decide +kernel
theorem dX8_week_91 : decode cX8_week 91 = .ok (.imul, 1) := by decide +kernel
theorem dX8_week_92 : decode cX8_week 92 = .ok (.ishr, 1) := by decide +kernel
theorem dX8_week_93 : decode cX8_week 93 = .ok (.bipush 15, 2) := by decide +kernel
theorem dX8_week_95 : decode cX8_week 95 = .ok (.iand, 1) := by decide +kernel
theorem dX8_week_96 : decode cX8_week 96 = .ok (.iastore, 1) := by decide +kernel
theorem dX8_week_97 : decode cX8_week 97 = .ok (.aload_n 0, 1) := by decide +kernel
theorem dX8_week_98 : decode cX8_week 98 = .ok (.getfield 59, 3) := by decide +kernel
theorem dX8_week_101 : decode cX8_week 101 = .ok (.iload 5, 2) := by decide +kernel
theorem dX8_week_103 : decode cX8_week 103 = .ok (.iaload, 1) := by decide +kernel
theorem dX8_week_104 : decode cX8_week 104 = .ok (.aload_n 0, 1) := by decide +kernel
theorem dX8_week_105 : decode cX8_week 105 = .ok (.iload 5, 2) := by decide +kernel
theorem dX8_week_107 : decode cX8_week 107 = .ok (.invokevirtual 155, 3) := by decide +kernel
theorem dX8_week_110 : decode cX8_week 110 = .ok (.aload_n 0, 1) := by decide +kernel
theorem dX8_week_111 : decode cX8_week 111 = .ok (.iload 5, 2) := by decide +kernel
theorem dX8_week_113 : decode cX8_week 113 = .ok (.invokevirtual 161, 3) := by decide +kernel
theorem dX8_week_116 : decode cX8_week 116 = .ok (.invokestatic 122, 3) := by decide +kernel
theorem dX8_week_119 : decode cX8_week 119 = .ok (.ifCond .ne 5, 3) := by decide +kernel
theorem dX8_week_122 : decode cX8_week 122 = .ok (.iconst (-1), 1) := by decide +kernel
theorem dX8_week_123 : decode cX8_week 123 = .ok (.ireturn, 1) := by decide +kernel
theorem dX8_week_124 : decode cX8_week 124 = .ok (.iinc 5 1, 3) := by decide +kernel
theorem dX8_week_127 : decode cX8_week 127 = .ok (.goto (-62), 3) := by decide +kernel
theorem dX8_week_130 : decode cX8_week 130 = .ok (.aload_n 0, 1) := by decide +kernel
theorem dX8_week_131 : decode cX8_week 131 = .ok (.iload 4, 2) := by decide +kernel
theorem dX8_week_133 : decode cX8_week 133 = .ok (.invokevirtual 231, 3) := by decide +kernel
theorem dX8_week_136 : decode cX8_week 136 = .ok (.ireturn, 1) := by decide +kernel
theorem dX8_best_0 : decode cX8_best 0 = .ok (.aload_n 0, 1) := by decide +kernel
theorem dX8_best_1 : decode cX8_best 1 = .ok (.invokevirtual 224, 3) := by decide +kernel
theorem dX8_best_4 : decode cX8_best 4 = .ok (.istore_n 2, 1) := by decide +kernel
theorem dX8_best_5 : decode cX8_best 5 = .ok (.iload_n 2, 1) := by decide +kernel
theorem dX8_best_6 : decode cX8_best 6 = .ok (.ifCond .ge 5, 3) := by decide +kernel
theorem dX8_best_9 : decode cX8_best 9 = .ok (.iload_n 2, 1) := by decide +kernel
theorem dX8_best_10 : decode cX8_best 10 = .ok (.ireturn, 1) := by decide +kernel
theorem dX8_best_11 : decode cX8_best 11 = .ok (.aload_n 0, 1) := by decide +kernel
theorem dX8_best_12 : decode cX8_best 12 = .ok (.aload_n 0, 1) := by decide +kernel
theorem dX8_best_13 : decode cX8_best 13 = .ok (.getfield 101, 3) := by decide +kernel
theorem dX8_best_16 : decode cX8_best 16 = .ok (.aload_n 0, 1) := by decide +kernel
theorem dX8_best_17 : decode cX8_best 17 = .ok (.getfield 221, 3) := by decide +kernel
theorem dX8_best_20 : decode cX8_best 20 = .ok (.iaload, 1) := by decide +kernel
theorem dX8_best_21 : decode cX8_best 21 = .ok (.iload_n 1, 1) := by decide +kernel
theorem dX8_best_22 : decode cX8_best 22 = .ok (.invokevirtual 227, 3) := by decide +kernel
theorem dX8_best_25 : decode cX8_best 25 = .ok (.istore_n 3, 1) := by decide +kernel
theorem dX8_best_26 : decode cX8_best 26 = .ok (.iload_n 3, 1) := by decide +kernel
theorem dX8_best_27 : decode cX8_best 27 = .ok (.ifCond .ge 5, 3) := by decide +kernel
theorem dX8_best_30 : decode cX8_best 30 = .ok (.iconst (-1), 1) := by decide +kernel
theorem dX8_best_31 : decode cX8_best 31 = .ok (.ireturn, 1) := by decide +kernel
theorem dX8_best_32 : decode cX8_best 32 = .ok (.aload_n 0, 1) := by decide +kernel
theorem dX8_best_33 : decode cX8_best 33 = .ok (.aload_n 0, 1) := by decide +kernel
theorem dX8_best_34 : decode cX8_best 34 = .ok (.getfield 101, 3) := by decide +kernel
theorem dX8_best_37 : decode cX8_best 37 = .ok (.aload_n 0, 1) := by decide +kernel
theorem dX8_best_38 : decode cX8_best 38 = .ok (.getfield 221, 3) := by decide +kernel
theorem dX8_best_41 : decode cX8_best 41 = .ok (.iaload, 1) := by decide +kernel
theorem dX8_best_42 : decode cX8_best 42 = .ok (.aload_n 0, 1) := by decide +kernel
theorem dX8_best_43 : decode cX8_best 43 = .ok (.getfield 104, 3) := by decide +kernel
theorem dX8_best_46 : decode cX8_best 46 = .ok (.aload_n 0, 1) := by decide +kernel
theorem dX8_best_47 : decode cX8_best 47 = .ok (.getfield 221, 3) := by decide +kernel
theorem dX8_best_50 : decode cX8_best 50 = .ok (.iaload, 1) := by decide +kernel
theorem dX8_best_51 : decode cX8_best 51 = .ok (.invokevirtual 209, 3) := by decide +kernel
theorem dX8_best_54 : decode cX8_best 54 = .ok (.aload_n 0, 1) := by decide +kernel
theorem dX8_best_55 : decode cX8_best 55 = .ok (.iload_n 3, 1) := by decide +kernel
theorem dX8_best_56 : decode cX8_best 56 = .ok (.invokevirtual 231, 3) := by decide +kernel
theorem dX8_best_59 : decode cX8_best 59 = .ok (.ireturn, 1) := by decide +kernel
theorem dX8_ruled_0 : decode cX8_ruled 0 = .ok (.aload_n 0, 1) := by decide +kernel
theorem dX8_ruled_1 : decode cX8_ruled 1 = .ok (.invokevirtual 224, 3) := by decide +kernel
theorem dX8_ruled_4 : decode cX8_ruled 4 = .ok (.istore_n 2, 1) := by decide +kernel
theorem dX8_ruled_5 : decode cX8_ruled 5 = .ok (.iload_n 2, 1) := by decide +kernel
theorem dX8_ruled_6 : decode cX8_ruled 6 = .ok (.ifCond .ge 5, 3) := by decide +kernel
theorem dX8_ruled_9 : decode cX8_ruled 9 = .ok (.iload_n 2, 1) := by decide +kernel
theorem dX8_ruled_10 : decode cX8_ruled 10 = .ok (.ireturn, 1) := by decide +kernel
theorem dX8_ruled_11 : decode cX8_ruled 11 = .ok (.aload_n 0, 1) := by decide +kernel
theorem dX8_ruled_12 : decode cX8_ruled 12 = .ok (.aload_n 0, 1) := by decide +kernel
theorem dX8_ruled_13 : decode cX8_ruled 13 = .ok (.getfield 101, 3) := by decide +kernel
theorem dX8_ruled_16 : decode cX8_ruled 16 = .ok (.aload_n 0, 1) := by decide +kernel
theorem dX8_ruled_17 : decode cX8_ruled 17 = .ok (.getfield 221, 3) := by decide +kernel
theorem dX8_ruled_20 : decode cX8_ruled 20 = .ok (.iaload, 1) := by decide +kernel
theorem dX8_ruled_21 : decode cX8_ruled 21 = .ok (.iload_n 1, 1) := by decide +kernel
theorem dX8_ruled_22 : decode cX8_ruled 22 = .ok (.invokevirtual 227, 3) := by decide +kernel
theorem dX8_ruled_25 : decode cX8_ruled 25 = .ok (.istore_n 3, 1) := by decide +kernel
theorem dX8_ruled_26 : decode cX8_ruled 26 = .ok (.iload_n 3, 1) := by decide +kernel
theorem dX8_ruled_27 : decode cX8_ruled 27 = .ok (.ifCond .ge 5, 3) := by decide +kernel
theorem dX8_ruled_30 : decode cX8_ruled 30 = .ok (.iconst (-1), 1) := by decide +kernel
theorem dX8_ruled_31 : decode cX8_ruled 31 = .ok (.ireturn, 1) := by decide +kernel
theorem dX8_ruled_32 : decode cX8_ruled 32 = .ok (.aload_n 0, 1) := by decide +kernel
theorem dX8_ruled_33 : decode cX8_ruled 33 = .ok (.aload_n 0, 1) := by decide +kernel
theorem dX8_ruled_34 : decode cX8_ruled 34 = .ok (.getfield 104, 3) := by decide +kernel
theorem dX8_ruled_37 : decode cX8_ruled 37 = .ok (.aload_n 0, 1) := by decide +kernel
theorem dX8_ruled_38 : decode cX8_ruled 38 = .ok (.getfield 221, 3) := by decide +kernel
theorem dX8_ruled_41 : decode cX8_ruled 41 = .ok (.iaload, 1) := by decide +kernel
theorem dX8_ruled_42 : decode cX8_ruled 42 = .ok (.invokevirtual 164, 3) := by decide +kernel
theorem dX8_ruled_45 : decode cX8_ruled 45 = .ok (.aload_n 0, 1) := by decide +kernel
theorem dX8_ruled_46 : decode cX8_ruled 46 = .ok (.invokevirtual 215, 3) := by decide +kernel
theorem dX8_ruled_49 : decode cX8_ruled 49 = .ok (.aload_n 0, 1) := by decide +kernel
theorem dX8_ruled_50 : decode cX8_ruled 50 = .ok (.iload_n 3, 1) := by decide +kernel
theorem dX8_ruled_51 : decode cX8_ruled 51 = .ok (.invokevirtual 231, 3) := by decide +kernel
theorem dX8_ruled_54 : decode cX8_ruled 54 = .ok (.ireturn, 1) := by decide +kernel
theorem dX8_undo_0 : decode cX8_undo 0 = .ok (.aload_n 0, 1) := by decide +kernel
theorem dX8_undo_1 : decode cX8_undo 1 = .ok (.getfield 134, 3) := by decide +kernel
theorem dX8_undo_4 : decode cX8_undo 4 = .ok (.ifCond .eq 10, 3) := by decide +kernel
theorem dX8_undo_7 : decode cX8_undo 7 = .ok (.aload_n 0, 1) := by decide +kernel
theorem dX8_undo_8 : decode cX8_undo 8 = .ok (.getfield 221, 3) := by decide +kernel
theorem dX8_undo_11 : decode cX8_undo 11 = .ok (.ifCond .ne 6, 3) := by decide +kernel
theorem dX8_undo_14 : decode cX8_undo 14 = .ok (.bipush (-6), 2) := by decide +kernel
theorem dX8_undo_16 : decode cX8_undo 16 = .ok (.ireturn, 1) := by decide +kernel
theorem dX8_undo_17 : decode cX8_undo 17 = .ok (.aload_n 0, 1) := by decide +kernel
theorem dX8_undo_18 : decode cX8_undo 18 = .ok (.dup, 1) := by decide +kernel
theorem dX8_undo_19 : decode cX8_undo 19 = .ok (.getfield 221, 3) := by decide +kernel
theorem dX8_undo_22 : decode cX8_undo 22 = .ok (.iconst 1, 1) := by decide +kernel
theorem dX8_undo_23 : decode cX8_undo 23 = .ok (.isub, 1) := by decide +kernel
theorem dX8_undo_24 : decode cX8_undo 24 = .ok (.putfield 221, 3) := by decide +kernel
theorem dX8_undo_27 : decode cX8_undo 27 = .ok (.aload_n 0, 1) := by decide +kernel
theorem dX8_undo_28 : decode cX8_undo 28 = .ok (.getfield 50, 3) := by decide +kernel
theorem dX8_undo_31 : decode cX8_undo 31 = .ok (.aload_n 0, 1) := by decide +kernel
theorem dX8_undo_32 : decode cX8_undo 32 = .ok (.getfield 101, 3) := by decide +kernel
theorem dX8_undo_35 : decode cX8_undo 35 = .ok (.aload_n 0, 1) := by decide +kernel
theorem dX8_undo_36 : decode cX8_undo 36 = .ok (.getfield 221, 3) := by decide +kernel
theorem dX8_undo_39 : decode cX8_undo 39 = .ok (.iaload, 1) := by decide +kernel
theorem dX8_undo_40 : decode cX8_undo 40 = .ok (.iaload, 1) := by decide +kernel
theorem dX8_undo_41 : decode cX8_undo 41 = .ok (.ireturn, 1) := by decide +kernel
theorem dX8_stop_0 : decode cX8_stop 0 = .ok (.aload_n 0, 1) := by decide +kernel
theorem dX8_stop_1 : decode cX8_stop 1 = .ok (.getfield 134, 3) := by decide +kernel
theorem dX8_stop_4 : decode cX8_stop 4 = .ok (.ifCond .eq 7, 3) := by decide +kernel
theorem dX8_stop_7 : decode cX8_stop 7 = .ok (.iconst 1, 1) := by decide +kernel
theorem dX8_stop_8 : decode cX8_stop 8 = .ok (.goto 4, 3) := by decide +kernel
theorem dX8_stop_11 : decode cX8_stop 11 = .ok (.iconst 0, 1) := by decide +kernel
theorem dX8_stop_12 : decode cX8_stop 12 = .ok (.istore_n 1, 1) := by decide +kernel
theorem dX8_stop_13 : decode cX8_stop 13 = .ok (.aload_n 0, 1) := by decide +kernel
theorem dX8_stop_14 : decode cX8_stop 14 = .ok (.iconst 0, 1) := by decide +kernel
theorem dX8_stop_15 : decode cX8_stop 15 = .ok (.putfield 134, 3) := by decide +kernel
theorem dX8_stop_18 : decode cX8_stop 18 = .ok (.iload_n 1, 1) := by decide +kernel
theorem dX8_stop_19 : decode cX8_stop 19 = .ok (.ireturn, 1) := by decide +kernel
theorem dX8_now_0 : decode cX8_now 0 = .ok (.aload_n 0, 1) := by decide +kernel
theorem dX8_now_1 : decode cX8_now 1 = .ok (.getfield 134, 3) := by decide +kernel
theorem dX8_now_4 : decode cX8_now 4 = .ok (.ifCond .ne 6, 3) := by decide +kernel
theorem dX8_now_7 : decode cX8_now 7 = .ok (.bipush (-6), 2) := by decide +kernel
theorem dX8_now_9 : decode cX8_now 9 = .ok (.ireturn, 1) := by decide +kernel
theorem dX8_now_10 : decode cX8_now 10 = .ok (.iload_n 1, 1) := by decide +kernel
theorem dX8_now_11 : decode cX8_now 11 = .ok (.tableswitch 106 0 6 #[41, 51, 61, 71, 81, 91, 101], 41) := by decide +kernel
theorem dX8_now_52 : decode cX8_now 52 = .ok (.aload_n 0, 1) := by decide +kernel
theorem dX8_now_53 : decode cX8_now 53 = .ok (.getfield 101, 3) := by decide +kernel
theorem dX8_now_56 : decode cX8_now 56 = .ok (.aload_n 0, 1) := by decide +kernel
theorem dX8_now_57 : decode cX8_now 57 = .ok (.getfield 221, 3) := by decide +kernel
theorem dX8_now_60 : decode cX8_now 60 = .ok (.iaload, 1) := by decide +kernel
theorem dX8_now_61 : decode cX8_now 61 = .ok (.ireturn, 1) := by decide +kernel
theorem dX8_now_62 : decode cX8_now 62 = .ok (.aload_n 0, 1) := by decide +kernel
theorem dX8_now_63 : decode cX8_now 63 = .ok (.getfield 104, 3) := by decide +kernel
theorem dX8_now_66 : decode cX8_now 66 = .ok (.aload_n 0, 1) := by decide +kernel
theorem dX8_now_67 : decode cX8_now 67 = .ok (.getfield 221, 3) := by decide +kernel
theorem dX8_now_70 : decode cX8_now 70 = .ok (.iaload, 1) := by decide +kernel
theorem dX8_now_71 : decode cX8_now 71 = .ok (.ireturn, 1) := by decide +kernel
theorem dX8_now_72 : decode cX8_now 72 = .ok (.aload_n 0, 1) := by decide +kernel
theorem dX8_now_73 : decode cX8_now 73 = .ok (.getfield 107, 3) := by decide +kernel
theorem dX8_now_76 : decode cX8_now 76 = .ok (.aload_n 0, 1) := by decide +kernel
theorem dX8_now_77 : decode cX8_now 77 = .ok (.getfield 221, 3) := by decide +kernel
theorem dX8_now_80 : decode cX8_now 80 = .ok (.iaload, 1) := by decide +kernel
theorem dX8_now_81 : decode cX8_now 81 = .ok (.ireturn, 1) := by decide +kernel
theorem dX8_now_82 : decode cX8_now 82 = .ok (.aload_n 0, 1) := by decide +kernel
theorem dX8_now_83 : decode cX8_now 83 = .ok (.getfield 110, 3) := by decide +kernel
theorem dX8_now_86 : decode cX8_now 86 = .ok (.aload_n 0, 1) := by decide +kernel
theorem dX8_now_87 : decode cX8_now 87 = .ok (.getfield 221, 3) := by decide +kernel
theorem dX8_now_90 : decode cX8_now 90 = .ok (.iaload, 1) := by decide +kernel
theorem dX8_now_91 : decode cX8_now 91 = .ok (.ireturn, 1) := by decide +kernel
theorem dX8_now_92 : decode cX8_now 92 = .ok (.aload_n 0, 1) := by decide +kernel
theorem dX8_now_93 : decode cX8_now 93 = .ok (.getfield 113, 3) := by decide +kernel
theorem dX8_now_96 : decode cX8_now 96 = .ok (.aload_n 0, 1) := by decide +kernel
theorem dX8_now_97 : decode cX8_now 97 = .ok (.getfield 221, 3) := by decide +kernel
theorem dX8_now_100 : decode cX8_now 100 = .ok (.iaload, 1) := by decide +kernel
theorem dX8_now_101 : decode cX8_now 101 = .ok (.ireturn, 1) := by decide +kernel
theorem dX8_now_102 : decode cX8_now 102 = .ok (.aload_n 0, 1) := by decide +kernel
theorem dX8_now_103 : decode cX8_now 103 = .ok (.getfield 116, 3) := by decide +kernel
theorem dX8_now_106 : decode cX8_now 106 = .ok (.aload_n 0, 1) := by decide +kernel
theorem dX8_now_107 : decode cX8_now 107 = .ok (.getfield 221, 3) := by decide +kernel
theorem dX8_now_110 : decode cX8_now 110 = .ok (.iaload, 1) := by decide +kernel
theorem dX8_now_111 : decode cX8_now 111 = .ok (.ireturn, 1) := by decide +kernel
theorem dX8_now_112 : decode cX8_now 112 = .ok (.aload_n 0, 1) := by decide +kernel
theorem dX8_now_113 : decode cX8_now 113 = .ok (.getfield 221, 3) := by decide +kernel
theorem dX8_now_116 : decode cX8_now 116 = .ok (.ireturn, 1) := by decide +kernel
theorem dX8_now_117 : decode cX8_now 117 = .ok (.iconst (-1), 1) := by decide +kernel
theorem dX8_now_118 : decode cX8_now 118 = .ok (.ireturn, 1) := by decide +kernel
theorem dJ9_max_7cf53_0 : decode cJ9_max_7cf53 0 = .ok (.iload_n 0, 1) := by decide +kernel
theorem dJ9_max_7cf53_1 : decode cJ9_max_7cf53 1 = .ok (.iload_n 1, 1) := by decide +kernel
theorem dJ9_max_7cf53_2 : decode cJ9_max_7cf53 2 = .ok (.if_icmp .lt 7, 3) := by decide +kernel
theorem dJ9_max_7cf53_5 : decode cJ9_max_7cf53 5 = .ok (.iload_n 0, 1) := by decide +kernel
theorem dJ9_max_7cf53_6 : decode cJ9_max_7cf53 6 = .ok (.goto 4, 3) := by decide +kernel
theorem dJ9_max_7cf53_9 : decode cJ9_max_7cf53 9 = .ok (.iload_n 1, 1) := by decide +kernel
theorem dJ9_max_7cf53_10 : decode cJ9_max_7cf53 10 = .ok (.ireturn, 1) := by decide +kernel
theorem dJ9_min_7cf53_0 : decode cJ9_min_7cf53 0 = .ok (.iload_n 0, 1) := by decide +kernel
theorem dJ9_min_7cf53_1 : decode cJ9_min_7cf53 1 = .ok (.iload_n 1, 1) := by decide +kernel
theorem dJ9_min_7cf53_2 : decode cJ9_min_7cf53 2 = .ok (.if_icmp .gt 7, 3) := by decide +kernel
theorem dJ9_min_7cf53_5 : decode cJ9_min_7cf53 5 = .ok (.iload_n 0, 1) := by decide +kernel
theorem dJ9_min_7cf53_6 : decode cJ9_min_7cf53 6 = .ok (.goto 4, 3) := by decide +kernel
theorem dJ9_min_7cf53_9 : decode cJ9_min_7cf53 9 = .ok (.iload_n 1, 1) := by decide +kernel
theorem dJ9_min_7cf53_10 : decode cJ9_min_7cf53 10 = .ok (.ireturn, 1) := by decide +kernel
theorem dJ7_fill_d0a16_0 : decode cJ7_fill_d0a16 0 = .ok (.iconst 0, 1) := by decide +kernel
theorem dJ7_fill_d0a16_1 : decode cJ7_fill_d0a16 1 = .ok (.istore_n 3, 1) := by decide +kernel
theorem dJ7_fill_d0a16_2 : decode cJ7_fill_d0a16 2 = .ok (.aload_n 0, 1) := by decide +kernel
theorem dJ7_fill_d0a16_3 : decode cJ7_fill_d0a16 3 = .ok (.arraylength, 1) := by decide +kernel
theorem dJ7_fill_d0a16_4 : decode cJ7_fill_d0a16 4 = .ok (.istore 4, 2) := by decide +kernel
theorem dJ7_fill_d0a16_6 : decode cJ7_fill_d0a16 6 = .ok (.iload_n 3, 1) := by decide +kernel
theorem dJ7_fill_d0a16_7 : decode cJ7_fill_d0a16 7 = .ok (.iload 4, 2) := by decide +kernel
theorem dJ7_fill_d0a16_9 : decode cJ7_fill_d0a16 9 = .ok (.if_icmp .ge 13, 3) := by decide +kernel
theorem dJ7_fill_d0a16_12 : decode cJ7_fill_d0a16 12 = .ok (.aload_n 0, 1) := by decide +kernel
theorem dJ7_fill_d0a16_13 : decode cJ7_fill_d0a16 13 = .ok (.iload_n 3, 1) := by decide +kernel
theorem dJ7_fill_d0a16_14 : decode cJ7_fill_d0a16 14 = .ok (.lload_n 1, 1) := by decide +kernel
theorem dJ7_fill_d0a16_15 : decode cJ7_fill_d0a16 15 = .ok (.lastore, 1) := by decide +kernel
theorem dJ7_fill_d0a16_16 : decode cJ7_fill_d0a16 16 = .ok (.iinc 3 1, 3) := by decide +kernel
theorem dJ7_fill_d0a16_19 : decode cJ7_fill_d0a16 19 = .ok (.goto (-13), 3) := by decide +kernel
theorem dJ7_fill_d0a16_22 : decode cJ7_fill_d0a16 22 = .ok (.return_, 1) := by decide +kernel
theorem dJ7_fill_53178_0 : decode cJ7_fill_53178 0 = .ok (.iconst 0, 1) := by decide +kernel
theorem dJ7_fill_53178_1 : decode cJ7_fill_53178 1 = .ok (.istore_n 2, 1) := by decide +kernel
theorem dJ7_fill_53178_2 : decode cJ7_fill_53178 2 = .ok (.aload_n 0, 1) := by decide +kernel
theorem dJ7_fill_53178_3 : decode cJ7_fill_53178 3 = .ok (.arraylength, 1) := by decide +kernel
theorem dJ7_fill_53178_4 : decode cJ7_fill_53178 4 = .ok (.istore_n 3, 1) := by decide +kernel
theorem dJ7_fill_53178_5 : decode cJ7_fill_53178 5 = .ok (.iload_n 2, 1) := by decide +kernel
theorem dJ7_fill_53178_6 : decode cJ7_fill_53178 6 = .ok (.iload_n 3, 1) := by decide +kernel
theorem dJ7_fill_53178_7 : decode cJ7_fill_53178 7 = .ok (.if_icmp .ge 13, 3) := by decide +kernel
end
section
theorem dJ7_fill_53178_10 : decode cJ7_fill_53178 10 = .ok (.aload_n 0, 1) := by decide +kernel
theorem dJ7_fill_53178_11 : decode cJ7_fill_53178 11 = .ok (.iload_n 2, 1) := by decide +kernel
theorem dJ7_fill_53178_12 : decode cJ7_fill_53178 12 = .ok (.iload_n 1, 1) := by decide +kernel
theorem dJ7_fill_53178_13 : decode cJ7_fill_53178 13 = .ok (.iastore, 1) := by decide +kernel
theorem dJ7_fill_53178_14 : decode cJ7_fill_53178 14 = .ok (.iinc 2 1, 3) := by decide +kernel
theorem dJ7_fill_53178_17 : decode cJ7_fill_53178 17 = .ok (.goto (-12), 3) := by decide +kernel
theorem dJ7_fill_53178_20 : decode cJ7_fill_53178 20 = .ok (.return_, 1) := by decide +kernel
theorem dL_law_0 : decode cL_law 0 = .ok (.new 7, 3) := by decide +kernel
theorem dL_law_3 : decode cL_law 3 = .ok (.dup, 1) := by decide +kernel
theorem dL_law_4 : decode cL_law 4 = .ok (.invokespecial 9, 3) := by decide +kernel
theorem dL_law_7 : decode cL_law 7 = .ok (.astore_n 1, 1) := by decide +kernel
theorem dL_law_8 : decode cL_law 8 = .ok (.new 10, 3) := by decide +kernel
theorem dL_law_11 : decode cL_law 11 = .ok (.dup, 1) := by decide +kernel
theorem dL_law_12 : decode cL_law 12 = .ok (.invokespecial 12, 3) := by decide +kernel
theorem dL_law_15 : decode cL_law 15 = .ok (.astore_n 2, 1) := by decide +kernel
theorem dL_law_16 : decode cL_law 16 = .ok (.iconst 0, 1) := by decide +kernel
theorem dL_law_17 : decode cL_law 17 = .ok (.istore_n 3, 1) := by decide +kernel
theorem dL_law_18 : decode cL_law 18 = .ok (.iload_n 3, 1) := by decide +kernel
theorem dL_law_19 : decode cL_law 19 = .ok (.aload_n 0, 1) := by decide +kernel
theorem dL_law_20 : decode cL_law 20 = .ok (.arraylength, 1) := by decide +kernel
theorem dL_law_21 : decode cL_law 21 = .ok (.iconst 5, 1) := by decide +kernel
theorem dL_law_22 : decode cL_law 22 = .ok (.isub, 1) := by decide +kernel
theorem dL_law_23 : decode cL_law 23 = .ok (.if_icmp .gt 980, 3) := by decide +kernel
theorem dL_law_26 : decode cL_law 26 = .ok (.aload_n 0, 1) := by decide +kernel
theorem dL_law_27 : decode cL_law 27 = .ok (.iload_n 3, 1) := by decide +kernel
theorem dL_law_28 : decode cL_law 28 = .ok (.iaload, 1) := by decide +kernel
theorem dL_law_29 : decode cL_law 29 = .ok (.bipush 31, 2) := by decide +kernel
theorem dL_law_31 : decode cL_law 31 = .ok (.iand, 1) := by decide +kernel
theorem dL_law_32 : decode cL_law 32 = .ok (.tableswitch 965 0 24 #[116, 169, 212, 245, 278, 311, 354, 387, 410, 444, 487, 531, 594, 637, 671, 705, 738, 791, 814, 837, 870, 893, 916, 929, 942], 116) := by decide +kernel
theorem dL_law_148 : decode cL_law 148 = .ok (.aload_n 1, 1) := by decide +kernel
theorem dL_law_149 : decode cL_law 149 = .ok (.aload_n 0, 1) := by decide +kernel
theorem dL_law_150 : decode cL_law 150 = .ok (.iload_n 3, 1) := by decide +kernel
theorem dL_law_151 : decode cL_law 151 = .ok (.iconst 1, 1) := by decide +kernel
theorem dL_law_152 : decode cL_law 152 = .ok (.iadd, 1) := by decide +kernel
theorem dL_law_153 : decode cL_law 153 = .ok (.iaload, 1) := by decide +kernel
theorem dL_law_154 : decode cL_law 154 = .ok (.aload_n 0, 1) := by decide +kernel
theorem dL_law_155 : decode cL_law 155 = .ok (.iload_n 3, 1) := by decide +kernel
theorem dL_law_156 : decode cL_law 156 = .ok (.iconst 2, 1) := by decide +kernel
theorem dL_law_157 : decode cL_law 157 = .ok (.iadd, 1) := by decide +kernel
theorem dL_law_158 : decode cL_law 158 = .ok (.iaload, 1) := by decide +kernel
theorem dL_law_159 : decode cL_law 159 = .ok (.aload_n 0, 1) := by decide +kernel
theorem dL_law_160 : decode cL_law 160 = .ok (.iload_n 3, 1) := by decide +kernel
theorem dL_law_161 : decode cL_law 161 = .ok (.iconst 3, 1) := by decide +kernel
theorem dL_law_162 : decode cL_law 162 = .ok (.iadd, 1) := by decide +kernel
theorem dL_law_163 : decode cL_law 163 = .ok (.iaload, 1) := by decide +kernel
theorem dL_law_164 : decode cL_law 164 = .ok (.aload_n 0, 1) := by decide +kernel
theorem dL_law_165 : decode cL_law 165 = .ok (.iload_n 3, 1) := by decide +kernel
theorem dL_law_166 : decode cL_law 166 = .ok (.iconst 4, 1) := by decide +kernel
theorem dL_law_167 : decode cL_law 167 = .ok (.iadd, 1) := by decide +kernel
theorem dL_law_168 : decode cL_law 168 = .ok (.iaload, 1) := by decide +kernel
theorem dL_law_169 : decode cL_law 169 = .ok (.invokevirtual 13, 3) := by decide +kernel
theorem dL_law_172 : decode cL_law 172 = .ok (.aload_n 2, 1) := by decide +kernel
theorem dL_law_173 : decode cL_law 173 = .ok (.aload_n 0, 1) := by decide +kernel
theorem dL_law_174 : decode cL_law 174 = .ok (.iload_n 3, 1) := by decide +kernel
theorem dL_law_175 : decode cL_law 175 = .ok (.iconst 1, 1) := by decide +kernel
theorem dL_law_176 : decode cL_law 176 = .ok (.iadd, 1) := by decide +kernel
theorem dL_law_177 : decode cL_law 177 = .ok (.iaload, 1) := by decide +kernel
theorem dL_law_178 : decode cL_law 178 = .ok (.aload_n 0, 1) := by decide +kernel
theorem dL_law_179 : decode cL_law 179 = .ok (.iload_n 3, 1) := by decide +kernel
theorem dL_law_180 : decode cL_law 180 = .ok (.iconst 2, 1) := by decide +kernel
theorem dL_law_181 : decode cL_law 181 = .ok (.iadd, 1) := by decide +kernel
theorem dL_law_182 : decode cL_law 182 = .ok (.iaload, 1) := by decide +kernel
theorem dL_law_183 : decode cL_law 183 = .ok (.aload_n 0, 1) := by decide +kernel
theorem dL_law_184 : decode cL_law 184 = .ok (.iload_n 3, 1) := by decide +kernel
theorem dL_law_185 : decode cL_law 185 = .ok (.iconst 3, 1) := by decide +kernel
theorem dL_law_186 : decode cL_law 186 = .ok (.iadd, 1) := by decide +kernel
theorem dL_law_187 : decode cL_law 187 = .ok (.iaload, 1) := by decide +kernel
theorem dL_law_188 : decode cL_law 188 = .ok (.aload_n 0, 1) := by decide +kernel
theorem dL_law_189 : decode cL_law 189 = .ok (.iload_n 3, 1) := by decide +kernel
theorem dL_law_190 : decode cL_law 190 = .ok (.iconst 4, 1) := by decide +kernel
theorem dL_law_191 : decode cL_law 191 = .ok (.iadd, 1) := by decide +kernel
theorem dL_law_192 : decode cL_law 192 = .ok (.iaload, 1) := by decide +kernel
theorem dL_law_193 : decode cL_law 193 = .ok (.invokevirtual 17, 3) := by decide +kernel
theorem dL_law_196 : decode cL_law 196 = .ok (.if_icmp .eq 801, 3) := by decide +kernel
theorem dL_law_199 : decode cL_law 199 = .ok (.iconst 0, 1) := by decide +kernel
theorem dL_law_200 : decode cL_law 200 = .ok (.ireturn, 1) := by decide +kernel
theorem dL_law_201 : decode cL_law 201 = .ok (.aload_n 1, 1) := by decide +kernel
theorem dL_law_202 : decode cL_law 202 = .ok (.aload_n 0, 1) := by decide +kernel
theorem dL_law_203 : decode cL_law 203 = .ok (.iload_n 3, 1) := by decide +kernel
theorem dL_law_204 : decode cL_law 204 = .ok (.iconst 1, 1) := by decide +kernel
theorem dL_law_205 : decode cL_law 205 = .ok (.iadd, 1) := by decide +kernel
theorem dL_law_206 : decode cL_law 206 = .ok (.iaload, 1) := by decide +kernel
theorem dL_law_207 : decode cL_law 207 = .ok (.aload_n 0, 1) := by decide +kernel
theorem dL_law_208 : decode cL_law 208 = .ok (.iload_n 3, 1) := by decide +kernel
theorem dL_law_209 : decode cL_law 209 = .ok (.iconst 2, 1) := by decide +kernel
theorem dL_law_210 : decode cL_law 210 = .ok (.iadd, 1) := by decide +kernel
theorem dL_law_211 : decode cL_law 211 = .ok (.iaload, 1) := by decide +kernel
theorem dL_law_212 : decode cL_law 212 = .ok (.aload_n 0, 1) := by decide +kernel
theorem dL_law_213 : decode cL_law 213 = .ok (.iload_n 3, 1) := by decide +kernel
theorem dL_law_214 : decode cL_law 214 = .ok (.iconst 3, 1) := by decide +kernel
theorem dL_law_215 : decode cL_law 215 = .ok (.iadd, 1) := by decide +kernel
theorem dL_law_216 : decode cL_law 216 = .ok (.iaload, 1) := by decide +kernel
theorem dL_law_217 : decode cL_law 217 = .ok (.invokevirtual 18, 3) := by decide +kernel
theorem dL_law_220 : decode cL_law 220 = .ok (.aload_n 2, 1) := by decide +kernel
theorem dL_law_221 : decode cL_law 221 = .ok (.aload_n 0, 1) := by decide +kernel
theorem dL_law_222 : decode cL_law 222 = .ok (.iload_n 3, 1) := by decide +kernel
theorem dL_law_223 : decode cL_law 223 = .ok (.iconst 1, 1) := by decide +kernel
theorem dL_law_224 : decode cL_law 224 = .ok (.iadd, 1) := by decide +kernel
theorem dL_law_225 : decode cL_law 225 = .ok (.iaload, 1) := by decide +kernel
theorem dL_law_226 : decode cL_law 226 = .ok (.aload_n 0, 1) := by decide +kernel
theorem dL_law_227 : decode cL_law 227 = .ok (.iload_n 3, 1) := by decide +kernel
theorem dL_law_228 : decode cL_law 228 = .ok (.iconst 2, 1) := by decide +kernel
theorem dL_law_229 : decode cL_law 229 = .ok (.iadd, 1) := by decide +kernel
theorem dL_law_230 : decode cL_law 230 = .ok (.iaload, 1) := by decide +kernel
theorem dL_law_231 : decode cL_law 231 = .ok (.aload_n 0, 1) := by decide +kernel
theorem dL_law_232 : decode cL_law 232 = .ok (.iload_n 3, 1) := by decide +kernel
theorem dL_law_233 : decode cL_law 233 = .ok (.iconst 3, 1) := by decide +kernel
theorem dL_law_234 : decode cL_law 234 = .ok (.iadd, 1) := by decide +kernel
theorem dL_law_235 : decode cL_law 235 = .ok (.iaload, 1) := by decide +kernel
theorem dL_law_236 : decode cL_law 236 = .ok (.invokevirtual 22, 3) := by decide +kernel
theorem dL_law_239 : decode cL_law 239 = .ok (.if_icmp .eq 758, 3) := by decide +kernel
theorem dL_law_242 : decode cL_law 242 = .ok (.iconst 0, 1) := by decide +kernel
theorem dL_law_243 : decode cL_law 243 = .ok (.ireturn, 1) := by decide +kernel
theorem dL_law_244 : decode cL_law 244 = .ok (.aload_n 1, 1) := by decide +kernel
theorem dL_law_245 : decode cL_law 245 = .ok (.aload_n 0, 1) := by decide +kernel
theorem dL_law_246 : decode cL_law 246 = .ok (.iload_n 3, 1) := by decide +kernel
theorem dL_law_247 : decode cL_law 247 = .ok (.iconst 1, 1) := by decide +kernel
theorem dL_law_248 : decode cL_law 248 = .ok (.iadd, 1) := by decide +kernel
theorem dL_law_249 : decode cL_law 249 = .ok (.iaload, 1) := by decide +kernel
theorem dL_law_250 : decode cL_law 250 = .ok (.aload_n 0, 1) := by decide +kernel
theorem dL_law_251 : decode cL_law 251 = .ok (.iload_n 3, 1) := by decide +kernel
theorem dL_law_252 : decode cL_law 252 = .ok (.iconst 2, 1) := by decide +kernel
theorem dL_law_253 : decode cL_law 253 = .ok (.iadd, 1) := by decide +kernel
theorem dL_law_254 : decode cL_law 254 = .ok (.iaload, 1) := by decide +kernel
theorem dL_law_255 : decode cL_law 255 = .ok (.invokevirtual 23, 3) := by decide +kernel
theorem dL_law_258 : decode cL_law 258 = .ok (.aload_n 2, 1) := by decide +kernel
theorem dL_law_259 : decode cL_law 259 = .ok (.aload_n 0, 1) := by decide +kernel
theorem dL_law_260 : decode cL_law 260 = .ok (.iload_n 3, 1) := by decide +kernel
theorem dL_law_261 : decode cL_law 261 = .ok (.iconst 1, 1) := by decide +kernel
theorem dL_law_262 : decode cL_law 262 = .ok (.iadd, 1) := by decide +kernel
theorem dL_law_263 : decode cL_law 263 = .ok (.iaload, 1) := by decide +kernel
theorem dL_law_264 : decode cL_law 264 = .ok (.aload_n 0, 1) := by decide +kernel
theorem dL_law_265 : decode cL_law 265 = .ok (.iload_n 3, 1) := by decide +kernel
theorem dL_law_266 : decode cL_law 266 = .ok (.iconst 2, 1) := by decide +kernel
theorem dL_law_267 : decode cL_law 267 = .ok (.iadd, 1) := by decide +kernel
theorem dL_law_268 : decode cL_law 268 = .ok (.iaload, 1) := by decide +kernel
theorem dL_law_269 : decode cL_law 269 = .ok (.invokevirtual 27, 3) := by decide +kernel
theorem dL_law_272 : decode cL_law 272 = .ok (.if_icmp .eq 725, 3) := by decide +kernel
theorem dL_law_275 : decode cL_law 275 = .ok (.iconst 0, 1) := by decide +kernel
theorem dL_law_276 : decode cL_law 276 = .ok (.ireturn, 1) := by decide +kernel
theorem dL_law_277 : decode cL_law 277 = .ok (.aload_n 1, 1) := by decide +kernel
theorem dL_law_278 : decode cL_law 278 = .ok (.aload_n 0, 1) := by decide +kernel
theorem dL_law_279 : decode cL_law 279 = .ok (.iload_n 3, 1) := by decide +kernel
theorem dL_law_280 : decode cL_law 280 = .ok (.iconst 1, 1) := by decide +kernel
theorem dL_law_281 : decode cL_law 281 = .ok (.iadd, 1) := by decide +kernel
theorem dL_law_282 : decode cL_law 282 = .ok (.iaload, 1) := by decide +kernel
theorem dL_law_283 : decode cL_law 283 = .ok (.aload_n 0, 1) := by decide +kernel
theorem dL_law_284 : decode cL_law 284 = .ok (.iload_n 3, 1) := by decide +kernel
theorem dL_law_285 : decode cL_law 285 = .ok (.iconst 2, 1) := by decide +kernel
theorem dL_law_286 : decode cL_law 286 = .ok (.iadd, 1) := by decide +kernel
theorem dL_law_287 : decode cL_law 287 = .ok (.iaload, 1) := by decide +kernel
theorem dL_law_288 : decode cL_law 288 = .ok (.invokevirtual 28, 3) := by decide +kernel
theorem dL_law_291 : decode cL_law 291 = .ok (.aload_n 2, 1) := by decide +kernel
theorem dL_law_292 : decode cL_law 292 = .ok (.aload_n 0, 1) := by decide +kernel
theorem dL_law_293 : decode cL_law 293 = .ok (.iload_n 3, 1) := by decide +kernel
theorem dL_law_294 : decode cL_law 294 = .ok (.iconst 1, 1) := by decide +kernel
theorem dL_law_295 : decode cL_law 295 = .ok (.iadd, 1) := by decide +kernel
theorem dL_law_296 : decode cL_law 296 = .ok (.iaload, 1) := by decide +kernel
theorem dL_law_297 : decode cL_law 297 = .ok (.aload_n 0, 1) := by decide +kernel
theorem dL_law_298 : decode cL_law 298 = .ok (.iload_n 3, 1) := by decide +kernel
theorem dL_law_299 : decode cL_law 299 = .ok (.iconst 2, 1) := by decide +kernel
theorem dL_law_300 : decode cL_law 300 = .ok (.iadd, 1) := by decide +kernel
theorem dL_law_301 : decode cL_law 301 = .ok (.iaload, 1) := by decide +kernel
theorem dL_law_302 : decode cL_law 302 = .ok (.invokevirtual 31, 3) := by decide +kernel
theorem dL_law_305 : decode cL_law 305 = .ok (.if_icmp .eq 692, 3) := by decide +kernel
theorem dL_law_308 : decode cL_law 308 = .ok (.iconst 0, 1) := by decide +kernel
theorem dL_law_309 : decode cL_law 309 = .ok (.ireturn, 1) := by decide +kernel
theorem dL_law_310 : decode cL_law 310 = .ok (.aload_n 1, 1) := by decide +kernel
theorem dL_law_311 : decode cL_law 311 = .ok (.aload_n 0, 1) := by decide +kernel
theorem dL_law_312 : decode cL_law 312 = .ok (.iload_n 3, 1) := by decide +kernel
theorem dL_law_313 : decode cL_law 313 = .ok (.iconst 1, 1) := by decide +kernel
theorem dL_law_314 : decode cL_law 314 = .ok (.iadd, 1) := by decide +kernel
theorem dL_law_315 : decode cL_law 315 = .ok (.iaload, 1) := by decide +kernel
theorem dL_law_316 : decode cL_law 316 = .ok (.aload_n 0, 1) := by decide +kernel
theorem dL_law_317 : decode cL_law 317 = .ok (.iload_n 3, 1) := by decide +kernel
theorem dL_law_318 : decode cL_law 318 = .ok (.iconst 2, 1) := by decide +kernel
theorem dL_law_319 : decode cL_law 319 = .ok (.iadd, 1) := by decide +kernel
theorem dL_law_320 : decode cL_law 320 = .ok (.iaload, 1) := by decide +kernel
theorem dL_law_321 : decode cL_law 321 = .ok (.invokevirtual 32, 3) := by decide +kernel
theorem dL_law_324 : decode cL_law 324 = .ok (.aload_n 2, 1) := by decide +kernel
theorem dL_law_325 : decode cL_law 325 = .ok (.aload_n 0, 1) := by decide +kernel
theorem dL_law_326 : decode cL_law 326 = .ok (.iload_n 3, 1) := by decide +kernel
theorem dL_law_327 : decode cL_law 327 = .ok (.iconst 1, 1) := by decide +kernel
theorem dL_law_328 : decode cL_law 328 = .ok (.iadd, 1) := by decide +kernel
theorem dL_law_329 : decode cL_law 329 = .ok (.iaload, 1) := by decide +kernel
theorem dL_law_330 : decode cL_law 330 = .ok (.aload_n 0, 1) := by decide +kernel
theorem dL_law_331 : decode cL_law 331 = .ok (.iload_n 3, 1) := by decide +kernel
theorem dL_law_332 : decode cL_law 332 = .ok (.iconst 2, 1) := by decide +kernel
theorem dL_law_333 : decode cL_law 333 = .ok (.iadd, 1) := by decide +kernel
theorem dL_law_334 : decode cL_law 334 = .ok (.iaload, 1) := by decide +kernel
theorem dL_law_335 : decode cL_law 335 = .ok (.invokevirtual 35, 3) := by decide +kernel
theorem dL_law_338 : decode cL_law 338 = .ok (.if_icmp .eq 659, 3) := by decide +kernel
theorem dL_law_341 : decode cL_law 341 = .ok (.iconst 0, 1) := by decide +kernel
theorem dL_law_342 : decode cL_law 342 = .ok (.ireturn, 1) := by decide +kernel
theorem dL_law_343 : decode cL_law 343 = .ok (.aload_n 1, 1) := by decide +kernel
theorem dL_law_344 : decode cL_law 344 = .ok (.aload_n 0, 1) := by decide +kernel
theorem dL_law_345 : decode cL_law 345 = .ok (.iload_n 3, 1) := by decide +kernel
theorem dL_law_346 : decode cL_law 346 = .ok (.iconst 1, 1) := by decide +kernel
theorem dL_law_347 : decode cL_law 347 = .ok (.iadd, 1) := by decide +kernel
theorem dL_law_348 : decode cL_law 348 = .ok (.iaload, 1) := by decide +kernel
theorem dL_law_349 : decode cL_law 349 = .ok (.aload_n 0, 1) := by decide +kernel
theorem dL_law_350 : decode cL_law 350 = .ok (.iload_n 3, 1) := by decide +kernel
theorem dL_law_351 : decode cL_law 351 = .ok (.iconst 2, 1) := by decide +kernel
theorem dL_law_352 : decode cL_law 352 = .ok (.iadd, 1) := by decide +kernel
theorem dL_law_353 : decode cL_law 353 = .ok (.iaload, 1) := by decide +kernel
theorem dL_law_354 : decode cL_law 354 = .ok (.aload_n 0, 1) := by decide +kernel
theorem dL_law_355 : decode cL_law 355 = .ok (.iload_n 3, 1) := by decide +kernel
theorem dL_law_356 : decode cL_law 356 = .ok (.iconst 3, 1) := by decide +kernel
theorem dL_law_357 : decode cL_law 357 = .ok (.iadd, 1) := by decide +kernel
theorem dL_law_358 : decode cL_law 358 = .ok (.iaload, 1) := by decide +kernel
theorem dL_law_359 : decode cL_law 359 = .ok (.invokevirtual 36, 3) := by decide +kernel
theorem dL_law_362 : decode cL_law 362 = .ok (.aload_n 2, 1) := by decide +kernel
theorem dL_law_363 : decode cL_law 363 = .ok (.aload_n 0, 1) := by decide +kernel
theorem dL_law_364 : decode cL_law 364 = .ok (.iload_n 3, 1) := by decide +kernel
theorem dL_law_365 : decode cL_law 365 = .ok (.iconst 1, 1) := by decide +kernel
theorem dL_law_366 : decode cL_law 366 = .ok (.iadd, 1) := by decide +kernel
theorem dL_law_367 : decode cL_law 367 = .ok (.iaload, 1) := by decide +kernel
theorem dL_law_368 : decode cL_law 368 = .ok (.aload_n 0, 1) := by decide +kernel
theorem dL_law_369 : decode cL_law 369 = .ok (.iload_n 3, 1) := by decide +kernel
theorem dL_law_370 : decode cL_law 370 = .ok (.iconst 2, 1) := by decide +kernel
theorem dL_law_371 : decode cL_law 371 = .ok (.iadd, 1) := by decide +kernel
theorem dL_law_372 : decode cL_law 372 = .ok (.iaload, 1) := by decide +kernel
theorem dL_law_373 : decode cL_law 373 = .ok (.aload_n 0, 1) := by decide +kernel
theorem dL_law_374 : decode cL_law 374 = .ok (.iload_n 3, 1) := by decide +kernel
theorem dL_law_375 : decode cL_law 375 = .ok (.iconst 3, 1) := by decide +kernel
theorem dL_law_376 : decode cL_law 376 = .ok (.iadd, 1) := by decide +kernel
theorem dL_law_377 : decode cL_law 377 = .ok (.iaload, 1) := by decide +kernel
theorem dL_law_378 : decode cL_law 378 = .ok (.invokevirtual 39, 3) := by decide +kernel
theorem dL_law_381 : decode cL_law 381 = .ok (.if_icmp .eq 616, 3) := by decide +kernel
theorem dL_law_384 : decode cL_law 384 = .ok (.iconst 0, 1) := by decide +kernel
theorem dL_law_385 : decode cL_law 385 = .ok (.ireturn, 1) := by decide +kernel
theorem dL_law_386 : decode cL_law 386 = .ok (.aload_n 1, 1) := by decide +kernel
theorem dL_law_387 : decode cL_law 387 = .ok (.aload_n 0, 1) := by decide +kernel
theorem dL_law_388 : decode cL_law 388 = .ok (.iload_n 3, 1) := by decide +kernel
theorem dL_law_389 : decode cL_law 389 = .ok (.iconst 1, 1) := by decide +kernel
theorem dL_law_390 : decode cL_law 390 = .ok (.iadd, 1) := by decide +kernel
theorem dL_law_391 : decode cL_law 391 = .ok (.iaload, 1) := by decide +kernel
theorem dL_law_392 : decode cL_law 392 = .ok (.aload_n 0, 1) := by decide +kernel
theorem dL_law_393 : decode cL_law 393 = .ok (.iload_n 3, 1) := by decide +kernel
theorem dL_law_394 : decode cL_law 394 = .ok (.iconst 2, 1) := by decide +kernel
theorem dL_law_395 : decode cL_law 395 = .ok (.iadd, 1) := by decide +kernel
theorem dL_law_396 : decode cL_law 396 = .ok (.iaload, 1) := by decide +kernel
theorem dL_law_397 : decode cL_law 397 = .ok (.invokevirtual 40, 3) := by decide +kernel
theorem dL_law_400 : decode cL_law 400 = .ok (.aload_n 2, 1) := by decide +kernel
theorem dL_law_401 : decode cL_law 401 = .ok (.aload_n 0, 1) := by decide +kernel
theorem dL_law_402 : decode cL_law 402 = .ok (.iload_n 3, 1) := by decide +kernel
theorem dL_law_403 : decode cL_law 403 = .ok (.iconst 1, 1) := by decide +kernel
theorem dL_law_404 : decode cL_law 404 = .ok (.iadd, 1) := by decide +kernel
theorem dL_law_405 : decode cL_law 405 = .ok (.iaload, 1) := by decide +kernel
theorem dL_law_406 : decode cL_law 406 = .ok (.aload_n 0, 1) := by decide +kernel
theorem dL_law_407 : decode cL_law 407 = .ok (.iload_n 3, 1) := by decide +kernel
theorem dL_law_408 : decode cL_law 408 = .ok (.iconst 2, 1) := by decide +kernel
theorem dL_law_409 : decode cL_law 409 = .ok (.iadd, 1) := by decide +kernel
theorem dL_law_410 : decode cL_law 410 = .ok (.iaload, 1) := by decide +kernel
theorem dL_law_411 : decode cL_law 411 = .ok (.invokevirtual 43, 3) := by decide +kernel
theorem dL_law_414 : decode cL_law 414 = .ok (.if_icmp .eq 583, 3) := by decide +kernel
theorem dL_law_417 : decode cL_law 417 = .ok (.iconst 0, 1) := by decide +kernel
theorem dL_law_418 : decode cL_law 418 = .ok (.ireturn, 1) := by decide +kernel
theorem dL_law_419 : decode cL_law 419 = .ok (.aload_n 1, 1) := by decide +kernel
theorem dL_law_420 : decode cL_law 420 = .ok (.aload_n 0, 1) := by decide +kernel
theorem dL_law_421 : decode cL_law 421 = .ok (.iload_n 3, 1) := by decide +kernel
theorem dL_law_422 : decode cL_law 422 = .ok (.iconst 1, 1) := by decide +kernel
theorem dL_law_423 : decode cL_law 423 = .ok (.iadd, 1) := by decide +kernel
theorem dL_law_424 : decode cL_law 424 = .ok (.iaload, 1) := by decide +kernel
theorem dL_law_425 : decode cL_law 425 = .ok (.invokevirtual 44, 3) := by decide +kernel
theorem dL_law_428 : decode cL_law 428 = .ok (.aload_n 2, 1) := by decide +kernel
theorem dL_law_429 : decode cL_law 429 = .ok (.aload_n 0, 1) := by decide +kernel
theorem dL_law_430 : decode cL_law 430 = .ok (.iload_n 3, 1) := by decide +kernel
theorem dL_law_431 : decode cL_law 431 = .ok (.iconst 1, 1) := by decide +kernel
theorem dL_law_432 : decode cL_law 432 = .ok (.iadd, 1) := by decide +kernel
theorem dL_law_433 : decode cL_law 433 = .ok (.iaload, 1) := by decide +kernel
theorem dL_law_434 : decode cL_law 434 = .ok (.invokevirtual 48, 3) := by decide +kernel
theorem dL_law_437 : decode cL_law 437 = .ok (.if_icmp .eq 560, 3) := by decide +kernel
theorem dL_law_440 : decode cL_law 440 = .ok (.iconst 0, 1) := by decide +kernel
theorem dL_law_441 : decode cL_law 441 = .ok (.ireturn, 1) := by decide +kernel
theorem dL_law_442 : decode cL_law 442 = .ok (.aload_n 1, 1) := by decide +kernel
theorem dL_law_443 : decode cL_law 443 = .ok (.aload_n 0, 1) := by decide +kernel
theorem dL_law_444 : decode cL_law 444 = .ok (.iload_n 3, 1) := by decide +kernel
theorem dL_law_445 : decode cL_law 445 = .ok (.iconst 1, 1) := by decide +kernel
theorem dL_law_446 : decode cL_law 446 = .ok (.iadd, 1) := by decide +kernel
theorem dL_law_447 : decode cL_law 447 = .ok (.iaload, 1) := by decide +kernel
theorem dL_law_448 : decode cL_law 448 = .ok (.aload_n 0, 1) := by decide +kernel
theorem dL_law_449 : decode cL_law 449 = .ok (.iload_n 3, 1) := by decide +kernel
theorem dL_law_450 : decode cL_law 450 = .ok (.iconst 2, 1) := by decide +kernel
theorem dL_law_451 : decode cL_law 451 = .ok (.iadd, 1) := by decide +kernel
theorem dL_law_452 : decode cL_law 452 = .ok (.iaload, 1) := by decide +kernel
theorem dL_law_453 : decode cL_law 453 = .ok (.invokevirtual 49, 3) := by decide +kernel
theorem dL_law_456 : decode cL_law 456 = .ok (.aload_n 2, 1) := by decide +kernel
theorem dL_law_457 : decode cL_law 457 = .ok (.aload_n 0, 1) := by decide +kernel
theorem dL_law_458 : decode cL_law 458 = .ok (.iload_n 3, 1) := by decide +kernel
theorem dL_law_459 : decode cL_law 459 = .ok (.iconst 1, 1) := by decide +kernel
theorem dL_law_460 : decode cL_law 460 = .ok (.iadd, 1) := by decide +kernel
theorem dL_law_461 : decode cL_law 461 = .ok (.iaload, 1) := by decide +kernel
theorem dL_law_462 : decode cL_law 462 = .ok (.aload_n 0, 1) := by decide +kernel
theorem dL_law_463 : decode cL_law 463 = .ok (.iload_n 3, 1) := by decide +kernel
theorem dL_law_464 : decode cL_law 464 = .ok (.iconst 2, 1) := by decide +kernel
theorem dL_law_465 : decode cL_law 465 = .ok (.iadd, 1) := by decide +kernel
theorem dL_law_466 : decode cL_law 466 = .ok (.iaload, 1) := by decide +kernel
theorem dL_law_467 : decode cL_law 467 = .ok (.invokevirtual 53, 3) := by decide +kernel
theorem dL_law_470 : decode cL_law 470 = .ok (.lcmp, 1) := by decide +kernel
theorem dL_law_471 : decode cL_law 471 = .ok (.ifCond .eq 526, 3) := by decide +kernel
theorem dL_law_474 : decode cL_law 474 = .ok (.iconst 0, 1) := by decide +kernel
theorem dL_law_475 : decode cL_law 475 = .ok (.ireturn, 1) := by decide +kernel
theorem dL_law_476 : decode cL_law 476 = .ok (.aload_n 1, 1) := by decide +kernel
theorem dL_law_477 : decode cL_law 477 = .ok (.aload_n 0, 1) := by decide +kernel
theorem dL_law_478 : decode cL_law 478 = .ok (.iload_n 3, 1) := by decide +kernel
theorem dL_law_479 : decode cL_law 479 = .ok (.iconst 1, 1) := by decide +kernel
theorem dL_law_480 : decode cL_law 480 = .ok (.iadd, 1) := by decide +kernel
theorem dL_law_481 : decode cL_law 481 = .ok (.iaload, 1) := by decide +kernel
theorem dL_law_482 : decode cL_law 482 = .ok (.aload_n 0, 1) := by decide +kernel
theorem dL_law_483 : decode cL_law 483 = .ok (.iload_n 3, 1) := by decide +kernel
theorem dL_law_484 : decode cL_law 484 = .ok (.iconst 2, 1) := by decide +kernel
theorem dL_law_485 : decode cL_law 485 = .ok (.iadd, 1) := by decide +kernel
theorem dL_law_486 : decode cL_law 486 = .ok (.iaload, 1) := by decide +kernel
theorem dL_law_487 : decode cL_law 487 = .ok (.aload_n 0, 1) := by decide +kernel
theorem dL_law_488 : decode cL_law 488 = .ok (.iload_n 3, 1) := by decide +kernel
theorem dL_law_489 : decode cL_law 489 = .ok (.iconst 3, 1) := by decide +kernel
theorem dL_law_490 : decode cL_law 490 = .ok (.iadd, 1) := by decide +kernel
theorem dL_law_491 : decode cL_law 491 = .ok (.iaload, 1) := by decide +kernel
theorem dL_law_492 : decode cL_law 492 = .ok (.invokevirtual 54, 3) := by decide +kernel
theorem dL_law_495 : decode cL_law 495 = .ok (.aload_n 2, 1) := by decide +kernel
theorem dL_law_496 : decode cL_law 496 = .ok (.aload_n 0, 1) := by decide +kernel
theorem dL_law_497 : decode cL_law 497 = .ok (.iload_n 3, 1) := by decide +kernel
theorem dL_law_498 : decode cL_law 498 = .ok (.iconst 1, 1) := by decide +kernel
theorem dL_law_499 : decode cL_law 499 = .ok (.iadd, 1) := by decide +kernel
theorem dL_law_500 : decode cL_law 500 = .ok (.iaload, 1) := by decide +kernel
theorem dL_law_501 : decode cL_law 501 = .ok (.aload_n 0, 1) := by decide +kernel
theorem dL_law_502 : decode cL_law 502 = .ok (.iload_n 3, 1) := by decide +kernel
theorem dL_law_503 : decode cL_law 503 = .ok (.iconst 2, 1) := by decide +kernel
theorem dL_law_504 : decode cL_law 504 = .ok (.iadd, 1) := by decide +kernel
theorem dL_law_505 : decode cL_law 505 = .ok (.iaload, 1) := by decide +kernel
theorem dL_law_506 : decode cL_law 506 = .ok (.aload_n 0, 1) := by decide +kernel
theorem dL_law_507 : decode cL_law 507 = .ok (.iload_n 3, 1) := by decide +kernel
theorem dL_law_508 : decode cL_law 508 = .ok (.iconst 3, 1) := by decide +kernel
theorem dL_law_509 : decode cL_law 509 = .ok (.iadd, 1) := by decide +kernel
theorem dL_law_510 : decode cL_law 510 = .ok (.iaload, 1) := by decide +kernel
theorem dL_law_511 : decode cL_law 511 = .ok (.invokevirtual 57, 3) := by decide +kernel
theorem dL_law_514 : decode cL_law 514 = .ok (.if_icmp .eq 483, 3) := by decide +kernel
theorem dL_law_517 : decode cL_law 517 = .ok (.iconst 0, 1) := by decide +kernel
theorem dL_law_518 : decode cL_law 518 = .ok (.ireturn, 1) := by decide +kernel
theorem dL_law_519 : decode cL_law 519 = .ok (.aload_n 1, 1) := by decide +kernel
theorem dL_law_520 : decode cL_law 520 = .ok (.aload_n 0, 1) := by decide +kernel
theorem dL_law_521 : decode cL_law 521 = .ok (.iload_n 3, 1) := by decide +kernel
theorem dL_law_522 : decode cL_law 522 = .ok (.iconst 1, 1) := by decide +kernel
theorem dL_law_523 : decode cL_law 523 = .ok (.iadd, 1) := by decide +kernel
theorem dL_law_524 : decode cL_law 524 = .ok (.iaload, 1) := by decide +kernel
theorem dL_law_525 : decode cL_law 525 = .ok (.aload_n 0, 1) := by decide +kernel
theorem dL_law_526 : decode cL_law 526 = .ok (.iload_n 3, 1) := by decide +kernel
theorem dL_law_527 : decode cL_law 527 = .ok (.iconst 2, 1) := by decide +kernel
theorem dL_law_528 : decode cL_law 528 = .ok (.iadd, 1) := by decide +kernel
theorem dL_law_529 : decode cL_law 529 = .ok (.iaload, 1) := by decide +kernel
theorem dL_law_530 : decode cL_law 530 = .ok (.aload_n 0, 1) := by decide +kernel
theorem dL_law_531 : decode cL_law 531 = .ok (.iload_n 3, 1) := by decide +kernel
theorem dL_law_532 : decode cL_law 532 = .ok (.iconst 3, 1) := by decide +kernel
theorem dL_law_533 : decode cL_law 533 = .ok (.iadd, 1) := by decide +kernel
theorem dL_law_534 : decode cL_law 534 = .ok (.iaload, 1) := by decide +kernel
theorem dL_law_535 : decode cL_law 535 = .ok (.invokevirtual 58, 3) := by decide +kernel
theorem dL_law_538 : decode cL_law 538 = .ok (.aload_n 2, 1) := by decide +kernel
theorem dL_law_539 : decode cL_law 539 = .ok (.aload_n 0, 1) := by decide +kernel
theorem dL_law_540 : decode cL_law 540 = .ok (.iload_n 3, 1) := by decide +kernel
theorem dL_law_541 : decode cL_law 541 = .ok (.iconst 1, 1) := by decide +kernel
theorem dL_law_542 : decode cL_law 542 = .ok (.iadd, 1) := by decide +kernel
theorem dL_law_543 : decode cL_law 543 = .ok (.iaload, 1) := by decide +kernel
theorem dL_law_544 : decode cL_law 544 = .ok (.aload_n 0, 1) := by decide +kernel
theorem dL_law_545 : decode cL_law 545 = .ok (.iload_n 3, 1) := by decide +kernel
theorem dL_law_546 : decode cL_law 546 = .ok (.iconst 2, 1) := by decide +kernel
theorem dL_law_547 : decode cL_law 547 = .ok (.iadd, 1) := by decide +kernel
theorem dL_law_548 : decode cL_law 548 = .ok (.iaload, 1) := by decide +kernel
theorem dL_law_549 : decode cL_law 549 = .ok (.aload_n 0, 1) := by decide +kernel
theorem dL_law_550 : decode cL_law 550 = .ok (.iload_n 3, 1) := by decide +kernel
theorem dL_law_551 : decode cL_law 551 = .ok (.iconst 3, 1) := by decide +kernel
theorem dL_law_552 : decode cL_law 552 = .ok (.iadd, 1) := by decide +kernel
theorem dL_law_553 : decode cL_law 553 = .ok (.iaload, 1) := by decide +kernel
theorem dL_law_554 : decode cL_law 554 = .ok (.invokevirtual 62, 3) := by decide +kernel
theorem dL_law_557 : decode cL_law 557 = .ok (.lcmp, 1) := by decide +kernel
theorem dL_law_558 : decode cL_law 558 = .ok (.ifCond .eq 439, 3) := by decide +kernel
theorem dL_law_561 : decode cL_law 561 = .ok (.iconst 0, 1) := by decide +kernel
theorem dL_law_562 : decode cL_law 562 = .ok (.ireturn, 1) := by decide +kernel
theorem dL_law_563 : decode cL_law 563 = .ok (.aload_n 1, 1) := by decide +kernel
theorem dL_law_564 : decode cL_law 564 = .ok (.aload_n 0, 1) := by decide +kernel
theorem dL_law_565 : decode cL_law 565 = .ok (.iload_n 3, 1) := by decide +kernel
theorem dL_law_566 : decode cL_law 566 = .ok (.iconst 1, 1) := by decide +kernel
theorem dL_law_567 : decode cL_law 567 = .ok (.iadd, 1) := by decide +kernel
theorem dL_law_568 : decode cL_law 568 = .ok (.iaload, 1) := by decide +kernel
theorem dL_law_569 : decode cL_law 569 = .ok (.aload_n 0, 1) := by decide +kernel
theorem dL_law_570 : decode cL_law 570 = .ok (.iload_n 3, 1) := by decide +kernel
theorem dL_law_571 : decode cL_law 571 = .ok (.iconst 2, 1) := by decide +kernel
theorem dL_law_572 : decode cL_law 572 = .ok (.iadd, 1) := by decide +kernel
theorem dL_law_573 : decode cL_law 573 = .ok (.iaload, 1) := by decide +kernel
theorem dL_law_574 : decode cL_law 574 = .ok (.i2l, 1) := by decide +kernel
theorem dL_law_575 : decode cL_law 575 = .ok (.bipush 32, 2) := by decide +kernel
theorem dL_law_577 : decode cL_law 577 = .ok (.lshl, 1) := by decide +kernel
theorem dL_law_578 : decode cL_law 578 = .ok (.aload_n 0, 1) := by decide +kernel
theorem dL_law_579 : decode cL_law 579 = .ok (.iload_n 3, 1) := by decide +kernel
theorem dL_law_580 : decode cL_law 580 = .ok (.iconst 3, 1) := by decide +kernel
theorem dL_law_581 : decode cL_law 581 = .ok (.iadd, 1) := by decide +kernel
theorem dL_law_582 : decode cL_law 582 = .ok (.iaload, 1) := by decide +kernel
theorem dL_law_583 : decode cL_law 583 = .ok (.i2l, 1) := by decide +kernel
theorem dL_law_584 : decode cL_law 584 = .ok (.ldc2_w 63, 3) := by decide +kernel
theorem dL_law_587 : decode cL_law 587 = .ok (.land, 1) := by decide +kernel
theorem dL_law_588 : decode cL_law 588 = .ok (.lor, 1) := by decide +kernel
theorem dL_law_589 : decode cL_law 589 = .ok (.invokevirtual 65, 3) := by decide +kernel
theorem dL_law_592 : decode cL_law 592 = .ok (.aload_n 2, 1) := by decide +kernel
theorem dL_law_593 : decode cL_law 593 = .ok (.aload_n 0, 1) := by decide +kernel
theorem dL_law_594 : decode cL_law 594 = .ok (.iload_n 3, 1) := by decide +kernel
theorem dL_law_595 : decode cL_law 595 = .ok (.iconst 1, 1) := by decide +kernel
theorem dL_law_596 : decode cL_law 596 = .ok (.iadd, 1) := by decide +kernel
theorem dL_law_597 : decode cL_law 597 = .ok (.iaload, 1) := by decide +kernel
theorem dL_law_598 : decode cL_law 598 = .ok (.aload_n 0, 1) := by decide +kernel
theorem dL_law_599 : decode cL_law 599 = .ok (.iload_n 3, 1) := by decide +kernel
theorem dL_law_600 : decode cL_law 600 = .ok (.iconst 2, 1) := by decide +kernel
theorem dL_law_601 : decode cL_law 601 = .ok (.iadd, 1) := by decide +kernel
theorem dL_law_602 : decode cL_law 602 = .ok (.iaload, 1) := by decide +kernel
theorem dL_law_603 : decode cL_law 603 = .ok (.i2l, 1) := by decide +kernel
theorem dL_law_604 : decode cL_law 604 = .ok (.bipush 32, 2) := by decide +kernel
theorem dL_law_606 : decode cL_law 606 = .ok (.lshl, 1) := by decide +kernel
theorem dL_law_607 : decode cL_law 607 = .ok (.aload_n 0, 1) := by decide +kernel
theorem dL_law_608 : decode cL_law 608 = .ok (.iload_n 3, 1) := by decide +kernel
theorem dL_law_609 : decode cL_law 609 = .ok (.iconst 3, 1) := by decide +kernel
theorem dL_law_610 : decode cL_law 610 = .ok (.iadd, 1) := by decide +kernel
theorem dL_law_611 : decode cL_law 611 = .ok (.iaload, 1) := by decide +kernel
theorem dL_law_612 : decode cL_law 612 = .ok (.i2l, 1) := by decide +kernel
theorem dL_law_613 : decode cL_law 613 = .ok (.ldc2_w 63, 3) := by decide +kernel
theorem dL_law_616 : decode cL_law 616 = .ok (.land, 1) := by decide +kernel
theorem dL_law_617 : decode cL_law 617 = .ok (.lor, 1) := by decide +kernel
theorem dL_law_618 : decode cL_law 618 = .ok (.invokevirtual 69, 3) := by decide +kernel
theorem dL_law_621 : decode cL_law 621 = .ok (.if_icmp .eq 376, 3) := by decide +kernel
theorem dL_law_624 : decode cL_law 624 = .ok (.iconst 0, 1) := by decide +kernel
theorem dL_law_625 : decode cL_law 625 = .ok (.ireturn, 1) := by decide +kernel
theorem dL_law_626 : decode cL_law 626 = .ok (.aload_n 1, 1) := by decide +kernel
theorem dL_law_627 : decode cL_law 627 = .ok (.aload_n 0, 1) := by decide +kernel
theorem dL_law_628 : decode cL_law 628 = .ok (.iload_n 3, 1) := by decide +kernel
theorem dL_law_629 : decode cL_law 629 = .ok (.iconst 1, 1) := by decide +kernel
theorem dL_law_630 : decode cL_law 630 = .ok (.iadd, 1) := by decide +kernel
theorem dL_law_631 : decode cL_law 631 = .ok (.iaload, 1) := by decide +kernel
theorem dL_law_632 : decode cL_law 632 = .ok (.aload_n 0, 1) := by decide +kernel
theorem dL_law_633 : decode cL_law 633 = .ok (.iload_n 3, 1) := by decide +kernel
theorem dL_law_634 : decode cL_law 634 = .ok (.iconst 2, 1) := by decide +kernel
theorem dL_law_635 : decode cL_law 635 = .ok (.iadd, 1) := by decide +kernel
theorem dL_law_636 : decode cL_law 636 = .ok (.iaload, 1) := by decide +kernel
theorem dL_law_637 : decode cL_law 637 = .ok (.aload_n 0, 1) := by decide +kernel
theorem dL_law_638 : decode cL_law 638 = .ok (.iload_n 3, 1) := by decide +kernel
theorem dL_law_639 : decode cL_law 639 = .ok (.iconst 3, 1) := by decide +kernel
theorem dL_law_640 : decode cL_law 640 = .ok (.iadd, 1) := by decide +kernel
theorem dL_law_641 : decode cL_law 641 = .ok (.iaload, 1) := by decide +kernel
theorem dL_law_642 : decode cL_law 642 = .ok (.invokevirtual 70, 3) := by decide +kernel
theorem dL_law_645 : decode cL_law 645 = .ok (.aload_n 2, 1) := by decide +kernel
theorem dL_law_646 : decode cL_law 646 = .ok (.aload_n 0, 1) := by decide +kernel
theorem dL_law_647 : decode cL_law 647 = .ok (.iload_n 3, 1) := by decide +kernel
theorem dL_law_648 : decode cL_law 648 = .ok (.iconst 1, 1) := by decide +kernel
theorem dL_law_649 : decode cL_law 649 = .ok (.iadd, 1) := by decide +kernel
theorem dL_law_650 : decode cL_law 650 = .ok (.iaload, 1) := by decide +kernel
theorem dL_law_651 : decode cL_law 651 = .ok (.aload_n 0, 1) := by decide +kernel
theorem dL_law_652 : decode cL_law 652 = .ok (.iload_n 3, 1) := by decide +kernel
theorem dL_law_653 : decode cL_law 653 = .ok (.iconst 2, 1) := by decide +kernel
theorem dL_law_654 : decode cL_law 654 = .ok (.iadd, 1) := by decide +kernel
theorem dL_law_655 : decode cL_law 655 = .ok (.iaload, 1) := by decide +kernel
theorem dL_law_656 : decode cL_law 656 = .ok (.aload_n 0, 1) := by decide +kernel
theorem dL_law_657 : decode cL_law 657 = .ok (.iload_n 3, 1) := by decide +kernel
theorem dL_law_658 : decode cL_law 658 = .ok (.iconst 3, 1) := by decide +kernel
theorem dL_law_659 : decode cL_law 659 = .ok (.iadd, 1) := by decide +kernel
theorem dL_law_660 : decode cL_law 660 = .ok (.iaload, 1) := by decide +kernel
theorem dL_law_661 : decode cL_law 661 = .ok (.invokevirtual 73, 3) := by decide +kernel
theorem dL_law_664 : decode cL_law 664 = .ok (.if_icmp .eq 333, 3) := by decide +kernel
theorem dL_law_667 : decode cL_law 667 = .ok (.iconst 0, 1) := by decide +kernel
theorem dL_law_668 : decode cL_law 668 = .ok (.ireturn, 1) := by decide +kernel
theorem dL_law_669 : decode cL_law 669 = .ok (.aload_n 1, 1) := by decide +kernel
theorem dL_law_670 : decode cL_law 670 = .ok (.aload_n 0, 1) := by decide +kernel
theorem dL_law_671 : decode cL_law 671 = .ok (.iload_n 3, 1) := by decide +kernel
theorem dL_law_672 : decode cL_law 672 = .ok (.iconst 1, 1) := by decide +kernel
theorem dL_law_673 : decode cL_law 673 = .ok (.iadd, 1) := by decide +kernel
theorem dL_law_674 : decode cL_law 674 = .ok (.iaload, 1) := by decide +kernel
theorem dL_law_675 : decode cL_law 675 = .ok (.aload_n 0, 1) := by decide +kernel
theorem dL_law_676 : decode cL_law 676 = .ok (.iload_n 3, 1) := by decide +kernel
theorem dL_law_677 : decode cL_law 677 = .ok (.iconst 2, 1) := by decide +kernel
theorem dL_law_678 : decode cL_law 678 = .ok (.iadd, 1) := by decide +kernel
theorem dL_law_679 : decode cL_law 679 = .ok (.iaload, 1) := by decide +kernel
theorem dL_law_680 : decode cL_law 680 = .ok (.invokevirtual 74, 3) := by decide +kernel
theorem dL_law_683 : decode cL_law 683 = .ok (.aload_n 2, 1) := by decide +kernel
theorem dL_law_684 : decode cL_law 684 = .ok (.aload_n 0, 1) := by decide +kernel
theorem dL_law_685 : decode cL_law 685 = .ok (.iload_n 3, 1) := by decide +kernel
theorem dL_law_686 : decode cL_law 686 = .ok (.iconst 1, 1) := by decide +kernel
theorem dL_law_687 : decode cL_law 687 = .ok (.iadd, 1) := by decide +kernel
theorem dL_law_688 : decode cL_law 688 = .ok (.iaload, 1) := by decide +kernel
theorem dL_law_689 : decode cL_law 689 = .ok (.aload_n 0, 1) := by decide +kernel
theorem dL_law_690 : decode cL_law 690 = .ok (.iload_n 3, 1) := by decide +kernel
theorem dL_law_691 : decode cL_law 691 = .ok (.iconst 2, 1) := by decide +kernel
theorem dL_law_692 : decode cL_law 692 = .ok (.iadd, 1) := by decide +kernel
theorem dL_law_693 : decode cL_law 693 = .ok (.iaload, 1) := by decide +kernel
theorem dL_law_694 : decode cL_law 694 = .ok (.invokevirtual 77, 3) := by decide +kernel
theorem dL_law_697 : decode cL_law 697 = .ok (.lcmp, 1) := by decide +kernel
theorem dL_law_698 : decode cL_law 698 = .ok (.ifCond .eq 299, 3) := by decide +kernel
theorem dL_law_701 : decode cL_law 701 = .ok (.iconst 0, 1) := by decide +kernel
theorem dL_law_702 : decode cL_law 702 = .ok (.ireturn, 1) := by decide +kernel
theorem dL_law_703 : decode cL_law 703 = .ok (.aload_n 1, 1) := by decide +kernel
theorem dL_law_704 : decode cL_law 704 = .ok (.aload_n 0, 1) := by decide +kernel
theorem dL_law_705 : decode cL_law 705 = .ok (.iload_n 3, 1) := by decide +kernel
theorem dL_law_706 : decode cL_law 706 = .ok (.iconst 1, 1) := by decide +kernel
theorem dL_law_707 : decode cL_law 707 = .ok (.iadd, 1) := by decide +kernel
theorem dL_law_708 : decode cL_law 708 = .ok (.iaload, 1) := by decide +kernel
theorem dL_law_709 : decode cL_law 709 = .ok (.aload_n 0, 1) := by decide +kernel
theorem dL_law_710 : decode cL_law 710 = .ok (.iload_n 3, 1) := by decide +kernel
theorem dL_law_711 : decode cL_law 711 = .ok (.iconst 2, 1) := by decide +kernel
theorem dL_law_712 : decode cL_law 712 = .ok (.iadd, 1) := by decide +kernel
theorem dL_law_713 : decode cL_law 713 = .ok (.iaload, 1) := by decide +kernel
theorem dL_law_714 : decode cL_law 714 = .ok (.invokevirtual 78, 3) := by decide +kernel
theorem dL_law_717 : decode cL_law 717 = .ok (.aload_n 2, 1) := by decide +kernel
theorem dL_law_718 : decode cL_law 718 = .ok (.aload_n 0, 1) := by decide +kernel
theorem dL_law_719 : decode cL_law 719 = .ok (.iload_n 3, 1) := by decide +kernel
theorem dL_law_720 : decode cL_law 720 = .ok (.iconst 1, 1) := by decide +kernel
theorem dL_law_721 : decode cL_law 721 = .ok (.iadd, 1) := by decide +kernel
theorem dL_law_722 : decode cL_law 722 = .ok (.iaload, 1) := by decide +kernel
theorem dL_law_723 : decode cL_law 723 = .ok (.aload_n 0, 1) := by decide +kernel
theorem dL_law_724 : decode cL_law 724 = .ok (.iload_n 3, 1) := by decide +kernel
theorem dL_law_725 : decode cL_law 725 = .ok (.iconst 2, 1) := by decide +kernel
theorem dL_law_726 : decode cL_law 726 = .ok (.iadd, 1) := by decide +kernel
theorem dL_law_727 : decode cL_law 727 = .ok (.iaload, 1) := by decide +kernel
theorem dL_law_728 : decode cL_law 728 = .ok (.invokevirtual 81, 3) := by decide +kernel
theorem dL_law_731 : decode cL_law 731 = .ok (.lcmp, 1) := by decide +kernel
theorem dL_law_732 : decode cL_law 732 = .ok (.ifCond .eq 265, 3) := by decide +kernel
theorem dL_law_735 : decode cL_law 735 = .ok (.iconst 0, 1) := by decide +kernel
theorem dL_law_736 : decode cL_law 736 = .ok (.ireturn, 1) := by decide +kernel
theorem dL_law_737 : decode cL_law 737 = .ok (.aload_n 1, 1) := by decide +kernel
theorem dL_law_738 : decode cL_law 738 = .ok (.aload_n 0, 1) := by decide +kernel
theorem dL_law_739 : decode cL_law 739 = .ok (.iload_n 3, 1) := by decide +kernel
theorem dL_law_740 : decode cL_law 740 = .ok (.iconst 1, 1) := by decide +kernel
theorem dL_law_741 : decode cL_law 741 = .ok (.iadd, 1) := by decide +kernel
theorem dL_law_742 : decode cL_law 742 = .ok (.iaload, 1) := by decide +kernel
theorem dL_law_743 : decode cL_law 743 = .ok (.aload_n 0, 1) := by decide +kernel
theorem dL_law_744 : decode cL_law 744 = .ok (.iload_n 3, 1) := by decide +kernel
theorem dL_law_745 : decode cL_law 745 = .ok (.iconst 2, 1) := by decide +kernel
theorem dL_law_746 : decode cL_law 746 = .ok (.iadd, 1) := by decide +kernel
theorem dL_law_747 : decode cL_law 747 = .ok (.iaload, 1) := by decide +kernel
theorem dL_law_748 : decode cL_law 748 = .ok (.invokevirtual 82, 3) := by decide +kernel
theorem dL_law_751 : decode cL_law 751 = .ok (.aload_n 2, 1) := by decide +kernel
theorem dL_law_752 : decode cL_law 752 = .ok (.aload_n 0, 1) := by decide +kernel
theorem dL_law_753 : decode cL_law 753 = .ok (.iload_n 3, 1) := by decide +kernel
theorem dL_law_754 : decode cL_law 754 = .ok (.iconst 1, 1) := by decide +kernel
theorem dL_law_755 : decode cL_law 755 = .ok (.iadd, 1) := by decide +kernel
theorem dL_law_756 : decode cL_law 756 = .ok (.iaload, 1) := by decide +kernel
theorem dL_law_757 : decode cL_law 757 = .ok (.aload_n 0, 1) := by decide +kernel
theorem dL_law_758 : decode cL_law 758 = .ok (.iload_n 3, 1) := by decide +kernel
theorem dL_law_759 : decode cL_law 759 = .ok (.iconst 2, 1) := by decide +kernel
theorem dL_law_760 : decode cL_law 760 = .ok (.iadd, 1) := by decide +kernel
theorem dL_law_761 : decode cL_law 761 = .ok (.iaload, 1) := by decide +kernel
theorem dL_law_762 : decode cL_law 762 = .ok (.invokevirtual 85, 3) := by decide +kernel
theorem dL_law_765 : decode cL_law 765 = .ok (.if_icmp .eq 232, 3) := by decide +kernel
theorem dL_law_768 : decode cL_law 768 = .ok (.iconst 0, 1) := by decide +kernel
theorem dL_law_769 : decode cL_law 769 = .ok (.ireturn, 1) := by decide +kernel
theorem dL_law_770 : decode cL_law 770 = .ok (.aload_n 1, 1) := by decide +kernel
theorem dL_law_771 : decode cL_law 771 = .ok (.aload_n 0, 1) := by decide +kernel
theorem dL_law_772 : decode cL_law 772 = .ok (.iload_n 3, 1) := by decide +kernel
theorem dL_law_773 : decode cL_law 773 = .ok (.iconst 1, 1) := by decide +kernel
theorem dL_law_774 : decode cL_law 774 = .ok (.iadd, 1) := by decide +kernel
theorem dL_law_775 : decode cL_law 775 = .ok (.iaload, 1) := by decide +kernel
theorem dL_law_776 : decode cL_law 776 = .ok (.aload_n 0, 1) := by decide +kernel
theorem dL_law_777 : decode cL_law 777 = .ok (.iload_n 3, 1) := by decide +kernel
theorem dL_law_778 : decode cL_law 778 = .ok (.iconst 2, 1) := by decide +kernel
theorem dL_law_779 : decode cL_law 779 = .ok (.iadd, 1) := by decide +kernel
theorem dL_law_780 : decode cL_law 780 = .ok (.iaload, 1) := by decide +kernel
theorem dL_law_781 : decode cL_law 781 = .ok (.aload_n 0, 1) := by decide +kernel
theorem dL_law_782 : decode cL_law 782 = .ok (.iload_n 3, 1) := by decide +kernel
theorem dL_law_783 : decode cL_law 783 = .ok (.iconst 3, 1) := by decide +kernel
theorem dL_law_784 : decode cL_law 784 = .ok (.iadd, 1) := by decide +kernel
theorem dL_law_785 : decode cL_law 785 = .ok (.iaload, 1) := by decide +kernel
theorem dL_law_786 : decode cL_law 786 = .ok (.aload_n 0, 1) := by decide +kernel
theorem dL_law_787 : decode cL_law 787 = .ok (.iload_n 3, 1) := by decide +kernel
theorem dL_law_788 : decode cL_law 788 = .ok (.iconst 4, 1) := by decide +kernel
theorem dL_law_789 : decode cL_law 789 = .ok (.iadd, 1) := by decide +kernel
theorem dL_law_790 : decode cL_law 790 = .ok (.iaload, 1) := by decide +kernel
theorem dL_law_791 : decode cL_law 791 = .ok (.invokevirtual 86, 3) := by decide +kernel
theorem dL_law_794 : decode cL_law 794 = .ok (.aload_n 2, 1) := by decide +kernel
theorem dL_law_795 : decode cL_law 795 = .ok (.aload_n 0, 1) := by decide +kernel
theorem dL_law_796 : decode cL_law 796 = .ok (.iload_n 3, 1) := by decide +kernel
theorem dL_law_797 : decode cL_law 797 = .ok (.iconst 1, 1) := by decide +kernel
theorem dL_law_798 : decode cL_law 798 = .ok (.iadd, 1) := by decide +kernel
theorem dL_law_799 : decode cL_law 799 = .ok (.iaload, 1) := by decide +kernel
theorem dL_law_800 : decode cL_law 800 = .ok (.aload_n 0, 1) := by decide +kernel
theorem dL_law_801 : decode cL_law 801 = .ok (.iload_n 3, 1) := by decide +kernel
theorem dL_law_802 : decode cL_law 802 = .ok (.iconst 2, 1) := by decide +kernel
theorem dL_law_803 : decode cL_law 803 = .ok (.iadd, 1) := by decide +kernel
theorem dL_law_804 : decode cL_law 804 = .ok (.iaload, 1) := by decide +kernel
theorem dL_law_805 : decode cL_law 805 = .ok (.aload_n 0, 1) := by decide +kernel
theorem dL_law_806 : decode cL_law 806 = .ok (.iload_n 3, 1) := by decide +kernel
theorem dL_law_807 : decode cL_law 807 = .ok (.iconst 3, 1) := by decide +kernel
theorem dL_law_808 : decode cL_law 808 = .ok (.iadd, 1) := by decide +kernel
theorem dL_law_809 : decode cL_law 809 = .ok (.iaload, 1) := by decide +kernel
theorem dL_law_810 : decode cL_law 810 = .ok (.aload_n 0, 1) := by decide +kernel
theorem dL_law_811 : decode cL_law 811 = .ok (.iload_n 3, 1) := by decide +kernel
theorem dL_law_812 : decode cL_law 812 = .ok (.iconst 4, 1) := by decide +kernel
theorem dL_law_813 : decode cL_law 813 = .ok (.iadd, 1) := by decide +kernel
theorem dL_law_814 : decode cL_law 814 = .ok (.iaload, 1) := by decide +kernel
theorem dL_law_815 : decode cL_law 815 = .ok (.invokevirtual 89, 3) := by decide +kernel
theorem dL_law_818 : decode cL_law 818 = .ok (.if_icmp .eq 179, 3) := by decide +kernel
theorem dL_law_821 : decode cL_law 821 = .ok (.iconst 0, 1) := by decide +kernel
theorem dL_law_822 : decode cL_law 822 = .ok (.ireturn, 1) := by decide +kernel
theorem dL_law_823 : decode cL_law 823 = .ok (.aload_n 1, 1) := by decide +kernel
theorem dL_law_824 : decode cL_law 824 = .ok (.aload_n 0, 1) := by decide +kernel
theorem dL_law_825 : decode cL_law 825 = .ok (.iload_n 3, 1) := by decide +kernel
theorem dL_law_826 : decode cL_law 826 = .ok (.iconst 1, 1) := by decide +kernel
theorem dL_law_827 : decode cL_law 827 = .ok (.iadd, 1) := by decide +kernel
theorem dL_law_828 : decode cL_law 828 = .ok (.iaload, 1) := by decide +kernel
theorem dL_law_829 : decode cL_law 829 = .ok (.invokevirtual 90, 3) := by decide +kernel
theorem dL_law_832 : decode cL_law 832 = .ok (.aload_n 2, 1) := by decide +kernel
theorem dL_law_833 : decode cL_law 833 = .ok (.aload_n 0, 1) := by decide +kernel
theorem dL_law_834 : decode cL_law 834 = .ok (.iload_n 3, 1) := by decide +kernel
theorem dL_law_835 : decode cL_law 835 = .ok (.iconst 1, 1) := by decide +kernel
theorem dL_law_836 : decode cL_law 836 = .ok (.iadd, 1) := by decide +kernel
theorem dL_law_837 : decode cL_law 837 = .ok (.iaload, 1) := by decide +kernel
theorem dL_law_838 : decode cL_law 838 = .ok (.invokevirtual 93, 3) := by decide +kernel
theorem dL_law_841 : decode cL_law 841 = .ok (.if_icmp .eq 156, 3) := by decide +kernel
theorem dL_law_844 : decode cL_law 844 = .ok (.iconst 0, 1) := by decide +kernel
theorem dL_law_845 : decode cL_law 845 = .ok (.ireturn, 1) := by decide +kernel
theorem dL_law_846 : decode cL_law 846 = .ok (.aload_n 1, 1) := by decide +kernel
theorem dL_law_847 : decode cL_law 847 = .ok (.aload_n 0, 1) := by decide +kernel
theorem dL_law_848 : decode cL_law 848 = .ok (.iload_n 3, 1) := by decide +kernel
theorem dL_law_849 : decode cL_law 849 = .ok (.iconst 1, 1) := by decide +kernel
theorem dL_law_850 : decode cL_law 850 = .ok (.iadd, 1) := by decide +kernel
theorem dL_law_851 : decode cL_law 851 = .ok (.iaload, 1) := by decide +kernel
theorem dL_law_852 : decode cL_law 852 = .ok (.invokevirtual 94, 3) := by decide +kernel
theorem dL_law_855 : decode cL_law 855 = .ok (.aload_n 2, 1) := by decide +kernel
theorem dL_law_856 : decode cL_law 856 = .ok (.aload_n 0, 1) := by decide +kernel
theorem dL_law_857 : decode cL_law 857 = .ok (.iload_n 3, 1) := by decide +kernel
theorem dL_law_858 : decode cL_law 858 = .ok (.iconst 1, 1) := by decide +kernel
theorem dL_law_859 : decode cL_law 859 = .ok (.iadd, 1) := by decide +kernel
theorem dL_law_860 : decode cL_law 860 = .ok (.iaload, 1) := by decide +kernel
theorem dL_law_861 : decode cL_law 861 = .ok (.invokevirtual 97, 3) := by decide +kernel
theorem dL_law_864 : decode cL_law 864 = .ok (.if_icmp .eq 133, 3) := by decide +kernel
theorem dL_law_867 : decode cL_law 867 = .ok (.iconst 0, 1) := by decide +kernel
theorem dL_law_868 : decode cL_law 868 = .ok (.ireturn, 1) := by decide +kernel
theorem dL_law_869 : decode cL_law 869 = .ok (.aload_n 1, 1) := by decide +kernel
theorem dL_law_870 : decode cL_law 870 = .ok (.aload_n 0, 1) := by decide +kernel
theorem dL_law_871 : decode cL_law 871 = .ok (.iload_n 3, 1) := by decide +kernel
theorem dL_law_872 : decode cL_law 872 = .ok (.iconst 1, 1) := by decide +kernel
theorem dL_law_873 : decode cL_law 873 = .ok (.iadd, 1) := by decide +kernel
theorem dL_law_874 : decode cL_law 874 = .ok (.iaload, 1) := by decide +kernel
theorem dL_law_875 : decode cL_law 875 = .ok (.aload_n 0, 1) := by decide +kernel
theorem dL_law_876 : decode cL_law 876 = .ok (.iload_n 3, 1) := by decide +kernel
theorem dL_law_877 : decode cL_law 877 = .ok (.iconst 2, 1) := by decide +kernel
theorem dL_law_878 : decode cL_law 878 = .ok (.iadd, 1) := by decide +kernel
theorem dL_law_879 : decode cL_law 879 = .ok (.iaload, 1) := by decide +kernel
theorem dL_law_880 : decode cL_law 880 = .ok (.invokevirtual 98, 3) := by decide +kernel
theorem dL_law_883 : decode cL_law 883 = .ok (.aload_n 2, 1) := by decide +kernel
theorem dL_law_884 : decode cL_law 884 = .ok (.aload_n 0, 1) := by decide +kernel
theorem dL_law_885 : decode cL_law 885 = .ok (.iload_n 3, 1) := by decide +kernel
theorem dL_law_886 : decode cL_law 886 = .ok (.iconst 1, 1) := by decide +kernel
theorem dL_law_887 : decode cL_law 887 = .ok (.iadd, 1) := by decide +kernel
theorem dL_law_888 : decode cL_law 888 = .ok (.iaload, 1) := by decide +kernel
theorem dL_law_889 : decode cL_law 889 = .ok (.aload_n 0, 1) := by decide +kernel
theorem dL_law_890 : decode cL_law 890 = .ok (.iload_n 3, 1) := by decide +kernel
theorem dL_law_891 : decode cL_law 891 = .ok (.iconst 2, 1) := by decide +kernel
theorem dL_law_892 : decode cL_law 892 = .ok (.iadd, 1) := by decide +kernel
theorem dL_law_893 : decode cL_law 893 = .ok (.iaload, 1) := by decide +kernel
theorem dL_law_894 : decode cL_law 894 = .ok (.invokevirtual 101, 3) := by decide +kernel
theorem dL_law_897 : decode cL_law 897 = .ok (.if_icmp .eq 100, 3) := by decide +kernel
theorem dL_law_900 : decode cL_law 900 = .ok (.iconst 0, 1) := by decide +kernel
theorem dL_law_901 : decode cL_law 901 = .ok (.ireturn, 1) := by decide +kernel
theorem dL_law_902 : decode cL_law 902 = .ok (.aload_n 1, 1) := by decide +kernel
theorem dL_law_903 : decode cL_law 903 = .ok (.aload_n 0, 1) := by decide +kernel
theorem dL_law_904 : decode cL_law 904 = .ok (.iload_n 3, 1) := by decide +kernel
theorem dL_law_905 : decode cL_law 905 = .ok (.iconst 1, 1) := by decide +kernel
theorem dL_law_906 : decode cL_law 906 = .ok (.iadd, 1) := by decide +kernel
theorem dL_law_907 : decode cL_law 907 = .ok (.iaload, 1) := by decide +kernel
theorem dL_law_908 : decode cL_law 908 = .ok (.invokevirtual 102, 3) := by decide +kernel
theorem dL_law_911 : decode cL_law 911 = .ok (.aload_n 2, 1) := by decide +kernel
theorem dL_law_912 : decode cL_law 912 = .ok (.aload_n 0, 1) := by decide +kernel
theorem dL_law_913 : decode cL_law 913 = .ok (.iload_n 3, 1) := by decide +kernel
theorem dL_law_914 : decode cL_law 914 = .ok (.iconst 1, 1) := by decide +kernel
theorem dL_law_915 : decode cL_law 915 = .ok (.iadd, 1) := by decide +kernel
theorem dL_law_916 : decode cL_law 916 = .ok (.iaload, 1) := by decide +kernel
theorem dL_law_917 : decode cL_law 917 = .ok (.invokevirtual 105, 3) := by decide +kernel
theorem dL_law_920 : decode cL_law 920 = .ok (.if_icmp .eq 77, 3) := by decide +kernel
theorem dL_law_923 : decode cL_law 923 = .ok (.iconst 0, 1) := by decide +kernel
theorem dL_law_924 : decode cL_law 924 = .ok (.ireturn, 1) := by decide +kernel
theorem dL_law_925 : decode cL_law 925 = .ok (.aload_n 1, 1) := by decide +kernel
theorem dL_law_926 : decode cL_law 926 = .ok (.aload_n 0, 1) := by decide +kernel
theorem dL_law_927 : decode cL_law 927 = .ok (.iload_n 3, 1) := by decide +kernel
theorem dL_law_928 : decode cL_law 928 = .ok (.iconst 1, 1) := by decide +kernel
theorem dL_law_929 : decode cL_law 929 = .ok (.iadd, 1) := by decide +kernel
theorem dL_law_930 : decode cL_law 930 = .ok (.iaload, 1) := by decide +kernel
theorem dL_law_931 : decode cL_law 931 = .ok (.invokevirtual 106, 3) := by decide +kernel
theorem dL_law_934 : decode cL_law 934 = .ok (.aload_n 2, 1) := by decide +kernel
theorem dL_law_935 : decode cL_law 935 = .ok (.aload_n 0, 1) := by decide +kernel
theorem dL_law_936 : decode cL_law 936 = .ok (.iload_n 3, 1) := by decide +kernel
theorem dL_law_937 : decode cL_law 937 = .ok (.iconst 1, 1) := by decide +kernel
theorem dL_law_938 : decode cL_law 938 = .ok (.iadd, 1) := by decide +kernel
theorem dL_law_939 : decode cL_law 939 = .ok (.iaload, 1) := by decide +kernel
theorem dL_law_940 : decode cL_law 940 = .ok (.invokevirtual 109, 3) := by decide +kernel
theorem dL_law_943 : decode cL_law 943 = .ok (.if_icmp .eq 54, 3) := by decide +kernel
theorem dL_law_946 : decode cL_law 946 = .ok (.iconst 0, 1) := by decide +kernel
theorem dL_law_947 : decode cL_law 947 = .ok (.ireturn, 1) := by decide +kernel
theorem dL_law_948 : decode cL_law 948 = .ok (.aload_n 1, 1) := by decide +kernel
theorem dL_law_949 : decode cL_law 949 = .ok (.invokevirtual 110, 3) := by decide +kernel
theorem dL_law_952 : decode cL_law 952 = .ok (.aload_n 2, 1) := by decide +kernel
theorem dL_law_953 : decode cL_law 953 = .ok (.invokevirtual 114, 3) := by decide +kernel
theorem dL_law_956 : decode cL_law 956 = .ok (.if_icmp .eq 41, 3) := by decide +kernel
theorem dL_law_959 : decode cL_law 959 = .ok (.iconst 0, 1) := by decide +kernel
theorem dL_law_960 : decode cL_law 960 = .ok (.ireturn, 1) := by decide +kernel
theorem dL_law_961 : decode cL_law 961 = .ok (.aload_n 1, 1) := by decide +kernel
theorem dL_law_962 : decode cL_law 962 = .ok (.invokevirtual 115, 3) := by decide +kernel
end
section
theorem dL_law_965 : decode cL_law 965 = .ok (.aload_n 2, 1) := by decide +kernel
theorem dL_law_966 : decode cL_law 966 = .ok (.invokevirtual 118, 3) := by decide +kernel
theorem dL_law_969 : decode cL_law 969 = .ok (.if_icmp .eq 28, 3) := by decide +kernel
theorem dL_law_972 : decode cL_law 972 = .ok (.iconst 0, 1) := by decide +kernel
theorem dL_law_973 : decode cL_law 973 = .ok (.ireturn, 1) := by decide +kernel
theorem dL_law_974 : decode cL_law 974 = .ok (.aload_n 1, 1) := by decide +kernel
theorem dL_law_975 : decode cL_law 975 = .ok (.aload_n 0, 1) := by decide +kernel
theorem dL_law_976 : decode cL_law 976 = .ok (.iload_n 3, 1) := by decide +kernel
theorem dL_law_977 : decode cL_law 977 = .ok (.iconst 1, 1) := by decide +kernel
theorem dL_law_978 : decode cL_law 978 = .ok (.iadd, 1) := by decide +kernel
theorem dL_law_979 : decode cL_law 979 = .ok (.iaload, 1) := by decide +kernel
theorem dL_law_980 : decode cL_law 980 = .ok (.invokevirtual 119, 3) := by decide +kernel
theorem dL_law_983 : decode cL_law 983 = .ok (.aload_n 2, 1) := by decide +kernel
theorem dL_law_984 : decode cL_law 984 = .ok (.aload_n 0, 1) := by decide +kernel
theorem dL_law_985 : decode cL_law 985 = .ok (.iload_n 3, 1) := by decide +kernel
theorem dL_law_986 : decode cL_law 986 = .ok (.iconst 1, 1) := by decide +kernel
theorem dL_law_987 : decode cL_law 987 = .ok (.iadd, 1) := by decide +kernel
theorem dL_law_988 : decode cL_law 988 = .ok (.iaload, 1) := by decide +kernel
theorem dL_law_989 : decode cL_law 989 = .ok (.invokevirtual 122, 3) := by decide +kernel
theorem dL_law_992 : decode cL_law 992 = .ok (.if_icmp .eq 5, 3) := by decide +kernel
theorem dL_law_995 : decode cL_law 995 = .ok (.iconst 0, 1) := by decide +kernel
theorem dL_law_996 : decode cL_law 996 = .ok (.ireturn, 1) := by decide +kernel
theorem dL_law_997 : decode cL_law 997 = .ok (.iinc 3 5, 3) := by decide +kernel
theorem dL_law_1000 : decode cL_law 1000 = .ok (.goto (-982), 3) := by decide +kernel
theorem dL_law_1003 : decode cL_law 1003 = .ok (.iconst 1, 1) := by decide +kernel
theorem dL_law_1004 : decode cL_law 1004 = .ok (.ireturn, 1) := by decide +kernel
end
section
/-! numbers: an Int32, an Int64 by an Int -/
def iI (z : Int) : Int32 := Int32.ofInt z
def lI (z : Int) : Int64 := Int64.ofInt z
abbrev R3 (z : Int) : Prop := -2147483648 ≤ z ∧ z < 2147483648
abbrev R6 (z : Int) : Prop := -9223372036854775808 ≤ z ∧ z < 9223372036854775808
theorem iI_toInt {z : Int} (h : R3 z) : (iI z).toInt = z := Int32.toInt_ofInt_of_le (by have := h.1; omega) (by have := h.2; omega)
theorem lI_toInt {z : Int} (h : R6 z) : (lI z).toInt = z := Int64.toInt_ofInt_of_le (by have := h.1; omega) (by have := h.2; omega)
theorem iI_back (x : Int32) : iI x.toInt = x := Int32.ofInt_toInt x
theorem lI_back (x : Int64) : lI x.toInt = x := Int64.ofInt_toInt x
theorem iI_add (a b : Int) : iI a + iI b = iI (a + b) := (Int32.ofInt_add a b).symm
theorem iI_sub (a b : Int) : iI a - iI b = iI (a - b) := (Int32.ofInt_sub a b).symm
theorem iI_mul (a b : Int) : iI a * iI b = iI (a * b) := (Int32.ofInt_mul a b).symm
theorem lI_add (a b : Int) : lI a + lI b = lI (a + b) := (Int64.ofInt_add a b).symm
theorem lI_sub (a b : Int) : lI a - lI b = lI (a - b) := (Int64.ofInt_sub a b).symm
theorem lI_mul (a b : Int) : lI a * lI b = lI (a * b) := (Int64.ofInt_mul a b).symm
theorem iI_lt {a b : Int} (ha : R3 a) (hb : R3 b) : iI a < iI b ↔ a < b := by rw [Int32.lt_iff_toInt_lt, iI_toInt ha, iI_toInt hb]
theorem iI_le {a b : Int} (ha : R3 a) (hb : R3 b) : iI a ≤ iI b ↔ a ≤ b := by rw [Int32.le_iff_toInt_le, iI_toInt ha, iI_toInt hb]
theorem iI_eq {a b : Int} (ha : R3 a) (hb : R3 b) : iI a = iI b ↔ a = b := by rw [← Int32.toInt_inj, iI_toInt ha, iI_toInt hb]
theorem lI_lt {a b : Int} (ha : R6 a) (hb : R6 b) : lI a < lI b ↔ a < b := by rw [Int64.lt_iff_toInt_lt, lI_toInt ha, lI_toInt hb]
theorem lI_eq {a b : Int} (ha : R6 a) (hb : R6 b) : lI a = lI b ↔ a = b := by rw [← Int64.toInt_inj, lI_toInt ha, lI_toInt hb]
theorem iI_zero : iI 0 = 0 := rfl
theorem iI_clamp {z : Int} (h : R3 z) : (iI z).toNatClampNeg = z.toNat := by
  show (iI z).toInt.toNat = z.toNat
  rw [iI_toInt h]
theorem iI_div {a b : Int} (ha : R3 a) (hb : R3 b) : iI a / iI b = iI (a.tdiv b) := by
  apply Int32.toInt_inj.mp
  rw [Int32.toInt_div, iI_toInt ha, iI_toInt hb]
  show _ = (Int32.ofInt _).toInt
  rw [Int32.toInt_ofInt]
theorem iI_mod {a b : Int} (ha : R3 a) (hb : R3 b) : iI a % iI b = iI (a.tmod b) := by
  rw [show a.tmod b = (iI a % iI b).toInt by rw [Int32.toInt_mod, iI_toInt ha, iI_toInt hb], iI_back]
theorem iI_long {a : Int} (ha : R3 a) : (iI a).toInt64 = lI a := by
  apply Int64.toInt_inj.mp
  rw [Int32.toInt_toInt64, iI_toInt ha, lI_toInt ⟨by have := ha.1; omega, by have := ha.2; omega⟩]
theorem iI_max {a b : Int} (ha : R3 a) (hb : R3 b) : (if iI a < iI b then iI b else iI a) = iI (max a b) := by
  simp only [iI_lt ha hb]
  by_cases h : a < b
  · rw [if_pos h, show max a b = b by omega]
  · rw [if_neg h, show max a b = a by omega]
theorem iI_min {a b : Int} (ha : R3 a) (hb : R3 b) : (if iI b < iI a then iI b else iI a) = iI (min a b) := by
  simp only [iI_lt hb ha]
  by_cases h : b < a
  · rw [if_pos h, show min a b = b by omega]
  · rw [if_neg h, show min a b = a by omega]
def shlI (a b : Int) : Int := (iI a <<< (iI b &&& 31)).toInt
def shrI (a b : Int) : Int := (iI a >>> (iI b &&& 31)).toInt
def andI (a b : Int) : Int := (iI a &&& iI b).toInt
def orI (a b : Int) : Int := (iI a ||| iI b).toInt
def andL (a b : Int) : Int := (lI a &&& lI b).toInt
def orL (a b : Int) : Int := (lI a ||| lI b).toInt
def shlL (a b : Int) : Int := (lI a <<< ((iI b).toInt64 &&& 63)).toInt
def cmpL (a b : Int) : Int := if a > b then 1 else if a = b then 0 else -1
theorem lI_cmp {a b : Int} (ha : R6 a) (hb : R6 b) : lg_cmp (lI a) (lI b) = iI (cmpL a b) := by
  unfold lg_cmp cmpL
  simp only [gt_iff_lt, lI_lt hb ha, lI_eq ha hb]
  repeat' split
  all_goals rfl
/-! the pure heap: the next address, the slots made, and by address: kind (0: none; class number and 1; 11 int[], 12 long[], 13 boolean[], 14 Lake[], 15 Node[]), length, contents -/
abbrev Hp : Type := Nat × Nat × (Int → Int × Int × (Int → Int))
def kd (σ : Hp) (a : Int) : Int := (σ.2.2 a).1
def ln (σ : Hp) (a : Int) : Int := (σ.2.2 a).2.1
def gf (σ : Hp) (a k : Int) : Int := (σ.2.2 a).2.2 k
def wr (σ : Hp) (a k v : Int) : Hp := (σ.1, σ.2.1, fun b => if b = a then (kd σ a, ln σ a, fun j => if j = k then v else gf σ a j) else σ.2.2 b)
def nw (σ : Hp) (kind len : Int) (sz : Nat) (f : Int → Int) : Hp := (σ.1 + 1, σ.2.1 + sz, fun b => if b = (σ.1 : Int) then (kind, len, f) else σ.2.2 b)
section Ops
variable {α β γ : Type}
def bd (x : Option (α × β)) (f : α → β → Option γ) : Option γ := match x with
  | some (a, b) => f a b
  | none => none
theorem bd_some (a : α) (b : β) (f : α → β → Option γ) : bd (some (a, b)) f = f a b := rfl
theorem bd_spec {x : Option (α × β)} {f : α → β → Option γ} {z : γ} (h : bd x f = some z) : ∃ a b, x = some (a, b) ∧ f a b = some z := by
  match x, h with
  | some (a, b), h => exact ⟨a, b, rfl, h⟩
theorem bo_spec {x : Option α} {f : α → Option γ} {z : γ} (h : x.bind f = some z) : ∃ a, x = some a ∧ f a = some z := Option.bind_eq_some_iff.mp h
def bLt (a b : Int) (T E : Option γ) : Option γ := if R3 a ∧ R3 b then (if a < b then T else E) else none
def bLe (a b : Int) (T E : Option γ) : Option γ := if R3 a ∧ R3 b then (if a ≤ b then T else E) else none
def bEq (a b : Int) (T E : Option γ) : Option γ := if R3 a ∧ R3 b then (if a = b then T else E) else none
def bN (a : Int) (T E : Option γ) : Option γ := if a < 0 then T else E
def g3 (a : Int) (X : Option γ) : Option γ := if R3 a then X else none
def g33 (a b : Int) (X : Option γ) : Option γ := if R3 a ∧ R3 b then X else none
def g66 (a b : Int) (X : Option γ) : Option γ := if R6 a ∧ R6 b then X else none
def gD (a b : Int) (X : Option γ) : Option γ := if R3 a ∧ R3 b ∧ b ≠ 0 then X else none
def iv (K : Int) (σ : Hp) (a : Int) (X : Option γ) : Option γ := if kd σ a = K then X else none
end Ops
def rd (c : Int) (σ : Hp) (a k : Int) : Option Int := if kd σ a = c then some (gf σ a k) else none
def pw (c : Int) (σ : Hp) (a k v : Int) : Option Hp := if kd σ a = c then some (wr σ a k v) else none
def pz (c : Int) (σ : Hp) (a k v : Int) : Option Hp := if kd σ a = c ∧ (v = 0 ∨ v = 1) then some (wr σ a k v) else none
def ar (c : Int) (σ : Hp) (a i : Int) : Option Int := if kd σ a = c ∧ 0 ≤ i ∧ i < ln σ a ∧ i < 2147483648 then some (gf σ a i) else none
def aw (c : Int) (σ : Hp) (a i v : Int) : Option Hp := if kd σ a = c ∧ 0 ≤ i ∧ i < ln σ a ∧ i < 2147483648 then some (wr σ a i v) else none
def az (c : Int) (σ : Hp) (a i v : Int) : Option Hp := if kd σ a = c ∧ 0 ≤ i ∧ i < ln σ a ∧ i < 2147483648 ∧ (v = 0 ∨ v = 1) then some (wr σ a i v) else none
def aq (c cv : Int) (σ : Hp) (a i v : Int) : Option Hp := if kd σ a = c ∧ 0 ≤ i ∧ i < ln σ a ∧ i < 2147483648 ∧ kd σ v = cv then some (wr σ a i v) else none
def al (c : Int) (σ : Hp) (a : Int) : Option Int := if kd σ a = c ∧ 0 ≤ ln σ a then some (ln σ a) else none
def na (c : Int) (σ : Hp) (n d : Int) : Option Hp := if 0 ≤ n ∧ n ≤ 1000000 then some (nw σ c n n.toNat (fun _ => d)) else none
def rz (v : Int) (σ : Hp) : Option (Int × Hp) := if v = 0 ∨ v = 1 then some (v, σ) else none
/-- the tables' words that a call hands on -/
def tb : List Cond := lw_tbl.filter goodWord
theorem tb_mem {w : Cond} (i : Nat) (h : lw_tbl[i]? = some w) (hg : goodWord w = true) : w ∈ tb := List.mem_filter.mpr ⟨List.mem_of_getElem? h, hg⟩
/-- classes by number -/
def nF (ci : Nat) : Nat := match ci with
  | 0 => 9
  | 1 => 16
  | 2 => 8
  | 3 => 5
  | 4 => 4
  | 5 => 2
  | 6 => 4
  | 7 => 5
  | _ => 40
def tyC (ci : Nat) : Nat → FieldType := match ci with
  | 0 => tyX0
  | 1 => tyX1
  | 2 => tyX2
  | 3 => tyX3
  | 4 => tyX4
  | 5 => tyX5
  | 6 => tyX6
  | 7 => tyX7
  | _ => tyX8
/-- tags of values: 0 an int or a boolean, 1 a long, 2 a reference (-1: null) -/
def tagOf (t : FieldType) : Nat := match t with
  | .long => 1
  | .object _ => 2
  | .array _ => 2
  | _ => 0
def plainT (t : FieldType) : Bool := match t with
  | .int => true
  | .long => true
  | .object _ => true
  | .array _ => true
  | _ => false
def oN (z : Int) : Option Nat := if z < 0 then none else some z.toNat
def pV (t : Nat) (z : Int) : Value := match t with
  | 0 => .int (iI z)
  | 1 => .long (lI z)
  | _ => va_rf (oN z)
abbrev pVs (q : Nat × Int) : Value := pV q.1 q.2
theorem pV_ref {a : Int} (h : 0 ≤ a) : pV 2 a = .ref a.toNat := by
  show va_rf (oN a) = _
  rw [oN, if_neg (by omega)]
  rfl
theorem pV_null {a : Int} (h : a < 0) : pV 2 a = .null := by
  show va_rf (oN a) = _
  rw [oN, if_pos h]
  rfl
theorem pV_cat (t : Nat) (z : Int) : (pV t z).category = if t = 1 then 2 else 1 := by
  match t with
  | 0 => rfl
  | 1 => rfl
  | t + 2 =>
    rw [if_neg (by omega)]
    show (va_rf (oN z)).category = 1
    cases oN z <;> rfl
theorem pV_plain {ty : FieldType} (h : plainT ty = true) (z : Int) : narrow ty (pV (tagOf ty) z) = pV (tagOf ty) z ∧ fits ty (pV (tagOf ty) z) = true := by
  cases ty <;> first | (simp [plainT] at h; done) | exact ⟨rfl, rfl⟩ | (show narrow _ (va_rf (oN z)) = va_rf (oN z) ∧ fits _ (va_rf (oN z)) = true; cases oN z <;> exact ⟨rfl, rfl⟩)
theorem pV_bool {z : Int} (h : z = 0 ∨ z = 1) : narrow .boolean (pV 0 z) = pV 0 z ∧ fits .boolean (pV 0 z) = true := by
  rcases h with rfl | rfl <;> exact ⟨by decide, by decide⟩
/-- words of a stack, by its tags -/
def ws8 (st : List (Nat × Int)) : Nat := (st.map fun q => if q.1 = 1 then 2 else 1).sum
theorem ws8_eq (st : List (Nat × Int)) : ((st.map pVs).map fun v => v.category).sum = ws8 st := by
  unfold ws8
  rw [List.map_map]
  congr 2
  funext q
  exact pV_cat q.1 q.2
/-- what a new object's fields hold -/
def d0 (ci : Nat) (k : Int) : Int := if tagOf (tyC ci k.toNat) = 2 then -1 else 0
theorem d0_val (ci k : Nat) (h : ∀ t : FieldType, tyC ci k = t → (t = .int ∨ t = .long ∨ t = .boolean ∨ plainT t = true)) : defaultValue (tyC ci k) = pV (tagOf (tyC ci k)) (d0 ci k) := by
  have h1 := h _ rfl
  unfold d0
  rw [Int.toNat_natCast]
  generalize tyC ci k = t at h1
  cases t <;> first | rfl | (simp [plainT] at h1)
def tagA (c : Int) : Nat := if c = 12 then 1 else if c = 14 ∨ c = 15 then 2 else 0
def cellAt (D : va_G) (dA : Nat → ClassId) (a : Nat) (e : Int × Int × (Int → Int)) (H : Heap) : Prop :=
  if 11 ≤ e.1 then H[a]? = some (arrV (dA (e.1.toNat - 11)) e.2.1.toNat (fun j => pV (tagA e.1) (e.2.2 j)))
  else t_OB a (D.1 (e.1.toNat - 1)) (nF (e.1.toNat - 1)) (D.2 (e.1.toNat - 1)) H (fun k => pV (tagOf (tyC (e.1.toNat - 1) k)) (e.2.2 k))
def Pw (D : va_G) (dA : Nat → ClassId) (b0 : Nat) (σ : Hp) (H : Heap) : Prop :=
  H.size = σ.1 ∧ b0 ≤ σ.1 ∧ ∀ a : Int, kd σ a ≠ 0 → 0 ≤ a ∧ b0 ≤ a.toNat ∧ cellAt D dA a.toNat (σ.2.2 a) H
section PwL
variable {D : va_G} {dA : Nat → ClassId} {b0 : Nat} {σ : Hp} {H H1 : Heap} {a : Int}
theorem cellAt.lt {a : Nat} {e : Int × Int × (Int → Int)} (h : cellAt D dA a e H) : a < H.size := by
  unfold cellAt at h
  split at h
  · exact (Array.getElem?_eq_some_iff.mp h).1
  · obtain ⟨cell, h1, -⟩ := h
    exact (Array.getElem?_eq_some_iff.mp h1).1
theorem cellAt.kept {a : Nat} {e : Int × Int × (Int → Int)} (h : cellAt D dA a e H) (h1 : H1[a]? = H[a]?) : cellAt D dA a e H1 := by
  unfold cellAt at h ⊢
  split at h
  · rw [if_pos (by assumption), h1]; exact h
  · rw [if_neg (by assumption)]; exact h.kept h1
theorem Pw.obj (hP : Pw D dA b0 σ H) {c : Int} {ci : Nat} (h : kd σ a = c) (hc : c = ci + 1) (h9 : ci < 9) : 0 ≤ a ∧ b0 ≤ a.toNat ∧ t_OB a.toNat (D.1 ci) (nF ci) (D.2 ci) H (fun k => pV (tagOf (tyC ci k)) (gf σ a k)) := by
  have h1 : (σ.2.2 a).1 = c := h
  obtain ⟨p1, p2, p3⟩ := hP.2.2 a (by rw [h]; omega)
  refine ⟨p1, p2, ?_⟩
  unfold cellAt at p3
  rw [h1, if_neg (by omega), show c.toNat - 1 = ci by omega] at p3
  exact p3
theorem Pw.arr (hP : Pw D dA b0 σ H) {c : Int} (h : kd σ a = c) (hc : 11 ≤ c) : 0 ≤ a ∧ b0 ≤ a.toNat ∧ H[a.toNat]? = some (arrV (dA (c.toNat - 11)) (ln σ a).toNat (fun j => pV (tagA c) (gf σ a j))) := by
  have h1 : (σ.2.2 a).1 = c := h
  obtain ⟨p1, p2, p3⟩ := hP.2.2 a (by rw [h]; omega)
  refine ⟨p1, p2, ?_⟩
  unfold cellAt at p3
  rw [h1, if_pos hc] at p3
  exact p3
/-- a write at an address that is there -/
theorem Pw.wrote (hP : Pw D dA b0 σ H) (ha : kd σ a ≠ 0) {k v : Int} (hz : H1.size = H.size) (ho : ∀ q, q ≠ a.toNat → H1[q]? = H[q]?) (hc : cellAt D dA a.toNat ((wr σ a k v).2.2 a) H1) : Pw D dA b0 (wr σ a k v) H1 := by
  refine ⟨by rw [hz]; exact hP.1, hP.2.1, fun b hb => ?_⟩
  obtain ⟨a1, a2, -⟩ := hP.2.2 a ha
  by_cases e : b = a
  · subst e
    exact ⟨a1, a2, hc⟩
  · have e1 : (wr σ a k v).2.2 b = σ.2.2 b := if_neg e
    have hb' : kd σ b ≠ 0 := fun h => hb (by unfold kd at h ⊢; rw [e1]; exact h)
    obtain ⟨b1, b2, b3⟩ := hP.2.2 b hb'
    rw [e1]
    exact ⟨b1, b2, b3.kept (ho _ (by omega))⟩
theorem Pw.made (hP : Pw D dA b0 σ H) {kind len : Int} {sz : Nat} {f : Int → Int} (hz : H1.size = H.size + 1) (ho : ∀ q, q < H.size → H1[q]? = H[q]?) (hc : cellAt D dA σ.1 (kind, len, f) H1) : Pw D dA b0 (nw σ kind len sz f) H1 := by
  refine ⟨by rw [hz, hP.1]; rfl, Nat.le_succ_of_le hP.2.1, fun b hb => ?_⟩
  by_cases e : b = (σ.1 : Int)
  · subst e
    have e1 : (nw σ kind len sz f).2.2 (σ.1 : Int) = (kind, len, f) := if_pos rfl
    rw [e1, Int.toNat_natCast]
    exact ⟨Int.natCast_nonneg _, hP.2.1, hc⟩
  · have e1 : (nw σ kind len sz f).2.2 b = σ.2.2 b := if_neg e
    have hb' : kd σ b ≠ 0 := fun h => hb (by unfold kd at h ⊢; rw [e1]; exact h)
    obtain ⟨b1, b2, b3⟩ := hP.2.2 b hb'
    rw [e1]
    exact ⟨b1, b2, b3.kept (ho _ b3.lt)⟩
end PwL
/-- how often a loop may go round -/
def fu : Nat := 100000
/-- a name for a computed number -/
def nm {γ : Type} (a : Int) (f : Int → Option γ) : Option γ := f a
/-- an array, an object made, and its address -/
def nab {γ : Type} (c : Int) (σ : Hp) (n d : Int) (f : Int → Hp → Option γ) : Option γ := (na c σ n d).bind (fun σ1 => f (σ.1 : Int) σ1)
def nwb {γ : Type} (c : Int) (σ : Hp) (N ci : Nat) (f : Int → Hp → Option γ) : Option γ := f (σ.1 : Int) (nw σ c 0 N (d0 ci))
/-- no result makes the heap smaller -/
def Mn (σ : Hp) (X : Option (Int × Hp)) : Prop := ∀ r σE, X = some (r, σE) → σ.1 ≤ σE.1 ∧ σ.2.1 ≤ σE.2.1
section MnL
variable {σ : Hp} {a b c k v : Int} {T E : Option (Int × Hp)} {f : Int → Option (Int × Hp)} {g : Hp → Option (Int × Hp)} {h : Int → Hp → Option (Int × Hp)}
theorem Mn_none : Mn σ none := fun _ _ q => by cases q
theorem Mn_ret : Mn σ (some (v, σ)) := fun _ _ q => by cases q; exact ⟨Nat.le_refl _, Nat.le_refl _⟩
theorem Mn_rz : Mn σ (rz v σ) := by
  unfold rz
  split
  · exact Mn_ret
  · exact Mn_none
theorem Mn_bo {x : Option Int} (hf : ∀ v, Mn σ (f v)) : Mn σ (x.bind f) := fun r σE q => by
  obtain ⟨v, -, q⟩ := bo_spec q
  exact hf v r σE q
theorem Mn_nm (hf : ∀ v, Mn σ (f v)) : Mn σ (nm a f) := hf a
theorem Mn_wr {X : Option (Int × Hp)} (hf : Mn (wr σ a k v) X) : Mn σ X := hf
theorem Mn_wrE {X : Option (Int × Hp)} (hf : Mn σ X) : Mn (wr σ a k v) X := hf
theorem Mn_pw (hf : ∀ σ1, Mn σ1 (g σ1)) : Mn σ ((pw c σ a k v).bind g) := by
  unfold pw
  split
  · exact hf (wr σ a k v)
  · exact Mn_none
theorem Mn_pz (hf : ∀ σ1, Mn σ1 (g σ1)) : Mn σ ((pz c σ a k v).bind g) := by
  unfold pz
  split
  · exact hf (wr σ a k v)
  · exact Mn_none
theorem Mn_aw (hf : ∀ σ1, Mn σ1 (g σ1)) : Mn σ ((aw c σ a k v).bind g) := by
  unfold aw
  split
  · exact hf (wr σ a k v)
  · exact Mn_none
theorem Mn_az (hf : ∀ σ1, Mn σ1 (g σ1)) : Mn σ ((az c σ a k v).bind g) := by
  unfold az
  split
  · exact hf (wr σ a k v)
  · exact Mn_none
theorem Mn_aq {cv : Int} (hf : ∀ σ1, Mn σ1 (g σ1)) : Mn σ ((aq c cv σ a k v).bind g) := by
  unfold aq
  split
  · exact hf (wr σ a k v)
  · exact Mn_none
theorem Mn_nw {len : Int} {sz : Nat} {w : Int → Int} {X : Option (Int × Hp)} (hf : Mn (nw σ k len sz w) X) : Mn σ X := fun r σE q => by
  have := hf r σE q
  have h1 : σ.1 + 1 ≤ σE.1 := this.1
  have h2 : σ.2.1 + sz ≤ σE.2.1 := this.2
  exact ⟨by omega, by omega⟩
theorem Mn_nab {d : Int} (hf : ∀ a σ1, Mn σ1 (h a σ1)) : Mn σ (nab c σ a d h) := by
  unfold nab na
  split
  · exact Mn_nw (hf _ _)
  · exact Mn_none
theorem Mn_nwb {N ci : Nat} (hf : ∀ a σ1, Mn σ1 (h a σ1)) : Mn σ (nwb c σ N ci h) := Mn_nw (hf _ _)
theorem Mn_bLt (h1 : Mn σ T) (h2 : Mn σ E) : Mn σ (bLt a b T E) := by
  unfold bLt
  repeat' split
  all_goals first | assumption | exact Mn_none
theorem Mn_bLe (h1 : Mn σ T) (h2 : Mn σ E) : Mn σ (bLe a b T E) := by
  unfold bLe
  repeat' split
  all_goals first | assumption | exact Mn_none
theorem Mn_bEq (h1 : Mn σ T) (h2 : Mn σ E) : Mn σ (bEq a b T E) := by
  unfold bEq
  repeat' split
  all_goals first | assumption | exact Mn_none
theorem Mn_bN (h1 : Mn σ T) (h2 : Mn σ E) : Mn σ (bN a T E) := by
  unfold bN
  split <;> assumption
theorem Mn_g3 (h1 : Mn σ T) : Mn σ (g3 a T) := by
  unfold g3
  split
  · exact h1
  · exact Mn_none
theorem Mn_g33 (h1 : Mn σ T) : Mn σ (g33 a b T) := by
  unfold g33
  split
  · exact h1
  · exact Mn_none
theorem Mn_g66 (h1 : Mn σ T) : Mn σ (g66 a b T) := by
  unfold g66
  split
  · exact h1
  · exact Mn_none
theorem Mn_gD (h1 : Mn σ T) : Mn σ (gD a b T) := by
  unfold gD
  split
  · exact h1
  · exact Mn_none
theorem Mn_iv (h1 : Mn σ T) : Mn σ (iv k σ a T) := by
  unfold iv
  split
  · exact h1
  · exact Mn_none
theorem Mn_bd (h1 : Mn σ T) (h2 : ∀ r σ1, Mn σ1 (h r σ1)) : Mn σ (bd T h) := fun r σE q => by
  obtain ⟨r1, σ1, q1, q2⟩ := bd_spec q
  have e1 := h1 r1 σ1 q1
  have e2 := h2 r1 σ1 r σE q2
  exact ⟨Nat.le_trans e1.1 e2.1, Nat.le_trans e1.2 e2.2⟩
end MnL
end
section
/-! the judgement over the pure heap -/
def tysA (dA : Nat → ClassId) : List (ClassId × FieldType) := [(dA 0, .int), (dA 1, .long), (dA 2, .boolean), (dA 3, .object "LakeChain$Lake"), (dA 4, .object "LakeChain$Node")]
/-- what the tables say, at a state -/
def KK (D : va_G) (dA : Nat → ClassId) (U : State) : Prop := va_K D vwCl (tysA dA) U ∧ va_AO "LakeChain$Lake" U ∧ va_AO "LakeChain$Node" U
theorem KK.moved {D : va_G} {dA : Nat → ClassId} {u U : State} (hvm : u.vm.Alike U.vm) (h : KK D dA u) : KK D dA U := ⟨va_K.moved hvm h.1, va_AO.moved hvm h.2.1, va_AO.moved hvm h.2.2⟩
abbrev lvV (lv : List (Nat × Nat × Int)) : List (Nat × Value) := lv.map fun q => (q.1, pV q.2.1 q.2.2)
def G (p : Program) (l : Launch) (e : Env) (R : Room) (s : State) (m : MethodId) (args : Array Value) (below : List Frame) (meth : Method) (c : Code) (D : va_G) (dA : Nat → ClassId) (b0 n0 m0 nL nE mE : Nat) (Q : State → Prop) (pc : Nat) (lv : List (Nat × Nat × Int)) (st : List (Nat × Int)) (σ : Hp) : Prop :=
  (σ.1 ≤ nE ∧ σ.2.1 ≤ mE) ∧ (n0 ≤ σ.1 → m0 ≤ σ.2.1 → ∀ (H : Heap) (locs : List Loc) (ls : Array Slot), Pw D dA b0 σ H → va_S (fun q => b0 ≤ q) s.heap H locs → lv_has ls nL (lvV lv) → W p l e R s m args below meth c H locs (σ.1 - n0) (σ.2.1 - m0) Q (F0 m pc ls (st.map pVs)))
/-- what holds all along a method's body -/
def Cx (p : Program) (R : Room) (s : State) (m : MethodId) (args : Array Value) (meth : Method) (c : Code) (D : va_G) (dA : Nat → ClassId) (b0 n0 m0 nL nE mE : Nat) (cc : ByteArray) (own : String) (fr lo : Nat) : Prop :=
  p.tables.exec = Jvm.exec ∧ c.code = cc ∧ c.maxLocals = nL ∧ s.vm.findClass own = some m.cls ∧ (∀ w ∈ tb, w.before args s = true) ∧ KK D dA s ∧ b0 ≤ s.heap.size ∧ (nE - n0 ≤ R.cells ∧ mE - m0 ≤ R.slots) ∧ (fr ≤ R.frames ∧ lo ≤ R.locals)
section GG
variable {p : Program} {l : Launch} {e : Env} {R : Room} {s : State} {m : MethodId} {args : Array Value} {below : List Frame} {meth : Method} {c : Code} {D : va_G} {dA : Nat → ClassId} {b0 n0 m0 nL nE mE : Nat} {Q : State → Prop}
variable {cc : ByteArray} {own : String} {fr lo : Nat} {pc : Nat} {lv : List (Nat × Nat × Int)} {st : List (Nat × Int)} {σ : Hp}
theorem g_iconst (hX : Cx p R s m args meth c D dA b0 n0 m0 nL nE mE cc own fr lo) {n : Int} (hd : decode cc pc = .ok (.iconst n, 1)) (k : G p l e R s m args below meth c D dA b0 n0 m0 nL nE mE Q (pc + 1) lv ((0, n) :: st) σ) : G p l e R s m args below meth c D dA b0 n0 m0 nL nE mE Q pc lv st σ :=
  ⟨k.1, fun h1 h2 H locs ls hP hS hl => lv_iconst hX.1 hX.2.1 hd rfl (k.2 h1 h2 H locs ls hP hS hl)⟩
theorem g_bipush (hX : Cx p R s m args meth c D dA b0 n0 m0 nL nE mE cc own fr lo) {n : Int} (hd : decode cc pc = .ok (.bipush n, 2)) (hn : (Int8.ofInt n).toInt32 = iI n) (k : G p l e R s m args below meth c D dA b0 n0 m0 nL nE mE Q (pc + 2) lv ((0, n) :: st) σ) : G p l e R s m args below meth c D dA b0 n0 m0 nL nE mE Q pc lv st σ :=
  ⟨k.1, fun h1 h2 H locs ls hP hS hl => lv_bipush hX.1 hX.2.1 hd hn (k.2 h1 h2 H locs ls hP hS hl)⟩
theorem g_sipush (hX : Cx p R s m args meth c D dA b0 n0 m0 nL nE mE cc own fr lo) {n : Int} (hd : decode cc pc = .ok (.sipush n, 3)) (hn : (Int16.ofInt n).toInt32 = iI n) (k : G p l e R s m args below meth c D dA b0 n0 m0 nL nE mE Q (pc + 3) lv ((0, n) :: st) σ) : G p l e R s m args below meth c D dA b0 n0 m0 nL nE mE Q pc lv st σ :=
  ⟨k.1, fun h1 h2 H locs ls hP hS hl => lv_sipush hX.1 hX.2.1 hd hn (k.2 h1 h2 H locs ls hP hS hl)⟩
theorem g_lconst (hX : Cx p R s m args meth c D dA b0 n0 m0 nL nE mE cc own fr lo) {n : Fin 2} {z : Int} (hd : decode cc pc = .ok (.lconst n, 1)) (hn : Int64.ofNat (n : Nat) = lI z) (k : G p l e R s m args below meth c D dA b0 n0 m0 nL nE mE Q (pc + 1) lv ((1, z) :: st) σ) : G p l e R s m args below meth c D dA b0 n0 m0 nL nE mE Q pc lv st σ :=
  ⟨k.1, fun h1 h2 H locs ls hP hS hl => lv_lconst hX.1 hX.2.1 hd hn (k.2 h1 h2 H locs ls hP hS hl)⟩
theorem g_null (hX : Cx p R s m args meth c D dA b0 n0 m0 nL nE mE cc own fr lo) (hd : decode cc pc = .ok (.aconst_null, 1)) (k : G p l e R s m args below meth c D dA b0 n0 m0 nL nE mE Q (pc + 1) lv ((2, -1) :: st) σ) : G p l e R s m args below meth c D dA b0 n0 m0 nL nE mE Q pc lv st σ :=
  ⟨k.1, fun h1 h2 H locs ls hP hS hl => lv_null hX.1 hX.2.1 hd (k.2 h1 h2 H locs ls hP hS hl)⟩
theorem g_ldc (hX : Cx p R s m args meth c D dA b0 n0 m0 nL nE mE cc own fr lo) {idx : Nat} {v : Int32} {z : Int} (hw : Cond.constant own idx v ∈ tb) (hz : v = iI z) (hd : decode cc pc = .ok (.ldc idx, 2)) (k : G p l e R s m args below meth c D dA b0 n0 m0 nL nE mE Q (pc + 2) lv ((0, z) :: st) σ) : G p l e R s m args below meth c D dA b0 n0 m0 nL nE mE Q pc lv st σ :=
  ⟨k.1, fun h1 h2 H locs ls hP hS hl => lv_ldc hX.1 hX.2.1 hX.2.2.2.1 (hX.2.2.2.2.1 _ hw) hd (by subst hz; exact k.2 h1 h2 H locs ls hP hS hl)⟩
theorem g_ldc2 (hX : Cx p R s m args meth c D dA b0 n0 m0 nL nE mE cc own fr lo) {idx : Nat} {v : Int64} {z : Int} (hw : Cond.constantLong own idx v ∈ tb) (hz : v = lI z) (hd : decode cc pc = .ok (.ldc2_w idx, 3)) (k : G p l e R s m args below meth c D dA b0 n0 m0 nL nE mE Q (pc + 3) lv ((1, z) :: st) σ) : G p l e R s m args below meth c D dA b0 n0 m0 nL nE mE Q pc lv st σ :=
  ⟨k.1, fun h1 h2 H locs ls hP hS hl => lv_ldc2 hX.1 hX.2.1 hX.2.2.2.1 (hX.2.2.2.2.1 _ hw) hd (by subst hz; exact k.2 h1 h2 H locs ls hP hS hl)⟩
theorem lvV_at {ls : Array Slot} {j i t : Nat} {z : Int} (hl : lv_has ls nL (lvV lv)) (hk : lv[j]? = some (i, t, z)) : ls[i]? = some (.val (pV t z)) := lv_at hl j (by rw [List.getElem?_map, hk]; rfl)
theorem g_iload_n (hX : Cx p R s m args meth c D dA b0 n0 m0 nL nE mE cc own fr lo) {k4 : Fin 4} {i : Nat} {z : Int} (j : Nat) (hd : decode cc pc = .ok (.iload_n k4, 1)) (hi : (k4 : Nat) = i) (hj : lv[j]? = some (i, 0, z)) (k : G p l e R s m args below meth c D dA b0 n0 m0 nL nE mE Q (pc + 1) lv ((0, z) :: st) σ) : G p l e R s m args below meth c D dA b0 n0 m0 nL nE mE Q pc lv st σ :=
  ⟨k.1, fun h1 h2 H locs ls hP hS hl => lv_iload_n hX.1 hX.2.1 hd hi (lvV_at hl hj) (k.2 h1 h2 H locs ls hP hS hl)⟩
theorem g_iload (hX : Cx p R s m args meth c D dA b0 n0 m0 nL nE mE cc own fr lo) {i : Nat} {z : Int} (j : Nat) (hd : decode cc pc = .ok (.iload i, 2)) (hj : lv[j]? = some (i, 0, z)) (k : G p l e R s m args below meth c D dA b0 n0 m0 nL nE mE Q (pc + 2) lv ((0, z) :: st) σ) : G p l e R s m args below meth c D dA b0 n0 m0 nL nE mE Q pc lv st σ :=
  ⟨k.1, fun h1 h2 H locs ls hP hS hl => lv_iload hX.1 hX.2.1 hd (lvV_at hl hj) (k.2 h1 h2 H locs ls hP hS hl)⟩
theorem g_lload_n (hX : Cx p R s m args meth c D dA b0 n0 m0 nL nE mE cc own fr lo) {k4 : Fin 4} {i : Nat} {z : Int} (j : Nat) (hd : decode cc pc = .ok (.lload_n k4, 1)) (hi : (k4 : Nat) = i) (hj : lv[j]? = some (i, 1, z)) (k : G p l e R s m args below meth c D dA b0 n0 m0 nL nE mE Q (pc + 1) lv ((1, z) :: st) σ) : G p l e R s m args below meth c D dA b0 n0 m0 nL nE mE Q pc lv st σ :=
  ⟨k.1, fun h1 h2 H locs ls hP hS hl => lv_lload_n hX.1 hX.2.1 hd hi (lvV_at hl hj) (k.2 h1 h2 H locs ls hP hS hl)⟩
theorem g_lload (hX : Cx p R s m args meth c D dA b0 n0 m0 nL nE mE cc own fr lo) {i : Nat} {z : Int} (j : Nat) (hd : decode cc pc = .ok (.lload i, 2)) (hj : lv[j]? = some (i, 1, z)) (k : G p l e R s m args below meth c D dA b0 n0 m0 nL nE mE Q (pc + 2) lv ((1, z) :: st) σ) : G p l e R s m args below meth c D dA b0 n0 m0 nL nE mE Q pc lv st σ :=
  ⟨k.1, fun h1 h2 H locs ls hP hS hl => lv_lload hX.1 hX.2.1 hd (lvV_at hl hj) (k.2 h1 h2 H locs ls hP hS hl)⟩
theorem g_aload_n (hX : Cx p R s m args meth c D dA b0 n0 m0 nL nE mE cc own fr lo) {k4 : Fin 4} {i : Nat} {z : Int} (j : Nat) (hd : decode cc pc = .ok (.aload_n k4, 1)) (hi : (k4 : Nat) = i) (hj : lv[j]? = some (i, 2, z)) (k : G p l e R s m args below meth c D dA b0 n0 m0 nL nE mE Q (pc + 1) lv ((2, z) :: st) σ) : G p l e R s m args below meth c D dA b0 n0 m0 nL nE mE Q pc lv st σ :=
  ⟨k.1, fun h1 h2 H locs ls hP hS hl => by
    have h := lvV_at hl hj
    have kk : W p l e R s m args below meth c H locs (σ.1 - n0) (σ.2.1 - m0) Q (F0 m (pc + 1) ls (pV 2 z :: st.map pVs)) := k.2 h1 h2 H locs ls hP hS hl
    by_cases hz : z < 0
    · rw [pV_null hz] at h kk
      exact lv_aload_nN hX.1 hX.2.1 hd hi h kk
    · rw [pV_ref (by omega)] at h kk
      exact lv_aload_n hX.1 hX.2.1 hd hi h kk⟩
theorem g_aload (hX : Cx p R s m args meth c D dA b0 n0 m0 nL nE mE cc own fr lo) {i : Nat} {z : Int} (j : Nat) (hd : decode cc pc = .ok (.aload i, 2)) (hj : lv[j]? = some (i, 2, z)) (k : G p l e R s m args below meth c D dA b0 n0 m0 nL nE mE Q (pc + 2) lv ((2, z) :: st) σ) : G p l e R s m args below meth c D dA b0 n0 m0 nL nE mE Q pc lv st σ :=
  ⟨k.1, fun h1 h2 H locs ls hP hS hl => by
    have h := lvV_at hl hj
    have kk : W p l e R s m args below meth c H locs (σ.1 - n0) (σ.2.1 - m0) Q (F0 m (pc + 2) ls (pV 2 z :: st.map pVs)) := k.2 h1 h2 H locs ls hP hS hl
    by_cases hz : z < 0
    · rw [pV_null hz] at h kk
      exact lv_aloadN hX.1 hX.2.1 hd h kk
    · rw [pV_ref (by omega)] at h kk
      exact lv_aload hX.1 hX.2.1 hd h kk⟩
/-- the locals behind a store of one word, of two words -/
def st1 (i t : Nat) (z : Int) (lv : List (Nat × Nat × Int)) : List (Nat × Nat × Int) := (i, t, z) :: lv.filter (fun q => !(q.1 == i) && !(q.1 + 1 == i && q.2.1 == 1))
def st2 (i : Nat) (z : Int) (lv : List (Nat × Nat × Int)) : List (Nat × Nat × Int) := (i, 1, z) :: lv.filter (fun q => !(q.1 == i) && (!(q.1 == i + 1) && !(q.1 + 1 == i && q.2.1 == 1)))
theorem cat_two (t : Nat) (z : Int) : ((pV t z).category == 2) = (t == 1) := by
  rw [pV_cat]
  by_cases h : t = 1
  · subst h; rfl
  · rw [if_neg h, show (t == 1) = false from beq_eq_false_iff_ne.mpr h]; rfl
theorem st1_V (i t : Nat) (z : Int) (v : Value) (hv : pV t z = v) (lv : List (Nat × Nat × Int)) : (i, v) :: (lvV lv).filter (fun q => !(q.1 == i) && !(q.1 + 1 == i && q.2.category == 2)) = lvV (st1 i t z lv) := by
  subst hv
  show _ = (i, pV t z) :: lvV _
  rw [List.filter_map]
  congr 3
  funext q
  simp only [Function.comp, cat_two]
theorem st2_V (i : Nat) (z : Int) (lv : List (Nat × Nat × Int)) : (i, Value.long (lI z)) :: (lvV lv).filter (fun q => !(q.1 == i) && (!(q.1 == i + 1) && !(q.1 + 1 == i && q.2.category == 2))) = lvV (st2 i z lv) := by
  show _ = (i, Value.long (lI z)) :: lvV _
  rw [List.filter_map]
  congr 3
  funext q
  simp only [Function.comp, cat_two]
theorem g_istore_n (hX : Cx p R s m args meth c D dA b0 n0 m0 nL nE mE cc own fr lo) {k4 : Fin 4} {i : Nat} {z : Int} {lv' : List (Nat × Nat × Int)} (hd : decode cc pc = .ok (.istore_n k4, 1)) (hi : (k4 : Nat) = i) (hn : i < nL) (hl' : st1 i 0 z lv = lv') (k : G p l e R s m args below meth c D dA b0 n0 m0 nL nE mE Q (pc + 1) lv' st σ) : G p l e R s m args below meth c D dA b0 n0 m0 nL nE mE Q pc lv ((0, z) :: st) σ :=
  ⟨k.1, fun h1 h2 H locs ls hP hS hl => lv_istore_n hX.1 hX.2.1 hd hi hl hn ((st1_V i 0 z _ rfl lv).trans (by rw [hl'])) (fun ls' hl2 => k.2 h1 h2 H locs ls' hP hS hl2)⟩
theorem g_istore (hX : Cx p R s m args meth c D dA b0 n0 m0 nL nE mE cc own fr lo) {i : Nat} {z : Int} {lv' : List (Nat × Nat × Int)} (hd : decode cc pc = .ok (.istore i, 2)) (hn : i < nL) (hl' : st1 i 0 z lv = lv') (k : G p l e R s m args below meth c D dA b0 n0 m0 nL nE mE Q (pc + 2) lv' st σ) : G p l e R s m args below meth c D dA b0 n0 m0 nL nE mE Q pc lv ((0, z) :: st) σ :=
  ⟨k.1, fun h1 h2 H locs ls hP hS hl => lv_istore hX.1 hX.2.1 hd hl hn ((st1_V i 0 z _ rfl lv).trans (by rw [hl'])) (fun ls' hl2 => k.2 h1 h2 H locs ls' hP hS hl2)⟩
theorem g_lstore_n (hX : Cx p R s m args meth c D dA b0 n0 m0 nL nE mE cc own fr lo) {k4 : Fin 4} {i : Nat} {z : Int} {lv' : List (Nat × Nat × Int)} (hd : decode cc pc = .ok (.lstore_n k4, 1)) (hi : (k4 : Nat) = i) (hn : i + 1 < nL) (hl' : st2 i z lv = lv') (k : G p l e R s m args below meth c D dA b0 n0 m0 nL nE mE Q (pc + 1) lv' st σ) : G p l e R s m args below meth c D dA b0 n0 m0 nL nE mE Q pc lv ((1, z) :: st) σ :=
  ⟨k.1, fun h1 h2 H locs ls hP hS hl => lv_lstore_n hX.1 hX.2.1 hd hi hl hn ((st2_V i z lv).trans (by rw [hl'])) (fun ls' hl2 => k.2 h1 h2 H locs ls' hP hS hl2)⟩
theorem g_lstore (hX : Cx p R s m args meth c D dA b0 n0 m0 nL nE mE cc own fr lo) {i : Nat} {z : Int} {lv' : List (Nat × Nat × Int)} (hd : decode cc pc = .ok (.lstore i, 2)) (hn : i + 1 < nL) (hl' : st2 i z lv = lv') (k : G p l e R s m args below meth c D dA b0 n0 m0 nL nE mE Q (pc + 2) lv' st σ) : G p l e R s m args below meth c D dA b0 n0 m0 nL nE mE Q pc lv ((1, z) :: st) σ :=
  ⟨k.1, fun h1 h2 H locs ls hP hS hl => lv_lstore hX.1 hX.2.1 hd hl hn ((st2_V i z lv).trans (by rw [hl'])) (fun ls' hl2 => k.2 h1 h2 H locs ls' hP hS hl2)⟩
theorem g_astore_n (hX : Cx p R s m args meth c D dA b0 n0 m0 nL nE mE cc own fr lo) {k4 : Fin 4} {i : Nat} {z : Int} {lv' : List (Nat × Nat × Int)} (hd : decode cc pc = .ok (.astore_n k4, 1)) (hi : (k4 : Nat) = i) (hn : i < nL) (hl' : st1 i 2 z lv = lv') (k : G p l e R s m args below meth c D dA b0 n0 m0 nL nE mE Q (pc + 1) lv' st σ) : G p l e R s m args below meth c D dA b0 n0 m0 nL nE mE Q pc lv ((2, z) :: st) σ :=
  ⟨k.1, fun h1 h2 H locs ls hP hS hl => by
    show W p l e R s m args below meth c H locs (σ.1 - n0) (σ.2.1 - m0) Q (F0 m pc ls (pV 2 z :: st.map pVs))
    by_cases hz : z < 0
    · rw [pV_null hz]
      exact lv_astore_nN hX.1 hX.2.1 hd hi hl hn ((st1_V i 2 z _ (pV_null hz) lv).trans (by rw [hl'])) (fun ls' hl2 => k.2 h1 h2 H locs ls' hP hS hl2)
    · rw [pV_ref (by omega)]
      exact lv_astore_n hX.1 hX.2.1 hd hi hl hn ((st1_V i 2 z _ (pV_ref (by omega)) lv).trans (by rw [hl'])) (fun ls' hl2 => k.2 h1 h2 H locs ls' hP hS hl2)⟩
theorem g_astore (hX : Cx p R s m args meth c D dA b0 n0 m0 nL nE mE cc own fr lo) {i : Nat} {z : Int} {lv' : List (Nat × Nat × Int)} (hd : decode cc pc = .ok (.astore i, 2)) (hn : i < nL) (hl' : st1 i 2 z lv = lv') (k : G p l e R s m args below meth c D dA b0 n0 m0 nL nE mE Q (pc + 2) lv' st σ) : G p l e R s m args below meth c D dA b0 n0 m0 nL nE mE Q pc lv ((2, z) :: st) σ :=
  ⟨k.1, fun h1 h2 H locs ls hP hS hl => by
    show W p l e R s m args below meth c H locs (σ.1 - n0) (σ.2.1 - m0) Q (F0 m pc ls (pV 2 z :: st.map pVs))
    by_cases hz : z < 0
    · rw [pV_null hz]
      exact lv_astoreN hX.1 hX.2.1 hd hl hn ((st1_V i 2 z _ (pV_null hz) lv).trans (by rw [hl'])) (fun ls' hl2 => k.2 h1 h2 H locs ls' hP hS hl2)
    · rw [pV_ref (by omega)]
      exact lv_astore hX.1 hX.2.1 hd hl hn ((st1_V i 2 z _ (pV_ref (by omega)) lv).trans (by rw [hl'])) (fun ls' hl2 => k.2 h1 h2 H locs ls' hP hS hl2)⟩
theorem g_iinc (hX : Cx p R s m args meth c D dA b0 n0 m0 nL nE mE cc own fr lo) {i : Nat} {n z : Int} {lv' : List (Nat × Nat × Int)} (j : Nat) (hd : decode cc pc = .ok (.iinc i n, 3)) (hj : lv[j]? = some (i, 0, z)) (hn : i < nL) (hl' : st1 i 0 (z + n) lv = lv') (k : G p l e R s m args below meth c D dA b0 n0 m0 nL nE mE Q (pc + 3) lv' st σ) : G p l e R s m args below meth c D dA b0 n0 m0 nL nE mE Q pc lv st σ :=
  ⟨k.1, fun h1 h2 H locs ls hP hS hl => lv_iinc hX.1 hX.2.1 hd hl (k := j) (by rw [List.getElem?_map, hj]; rfl) (iI_add z n) hn ((st1_V i 0 (z + n) _ rfl lv).trans (by rw [hl'])) (fun ls' hl2 => k.2 h1 h2 H locs ls' hP hS hl2)⟩
/-- the locals list anew, in another order or with fewer -/
theorem g_lv {lv' : List (Nat × Nat × Int)} (h : ∀ q ∈ lv', q ∈ lv) (k : G p l e R s m args below meth c D dA b0 n0 m0 nL nE mE Q pc lv' st σ) : G p l e R s m args below meth c D dA b0 n0 m0 nL nE mE Q pc lv st σ :=
  ⟨k.1, fun h1 h2 H locs ls hP hS hl => k.2 h1 h2 H locs ls hP hS ⟨hl.1, hl.2.1, fun q hq => by
    obtain ⟨x, hx, rfl⟩ := List.mem_map.mp hq
    exact hl.2.2 _ (List.mem_map.mpr ⟨x, h x hx, rfl⟩)⟩⟩
/-- the same by places -/
theorem g_lvp {lv' : List (Nat × Nat × Int)} (ks : List Nat) (h : ks.map (fun k => lv[k]?) = lv'.map some) (k : G p l e R s m args below meth c D dA b0 n0 m0 nL nE mE Q pc lv' st σ) : G p l e R s m args below meth c D dA b0 n0 m0 nL nE mE Q pc lv st σ :=
  g_lv (fun q hq => by
    have h1 : some q ∈ ks.map (fun k => lv[k]?) := by rw [h]; exact List.mem_map.mpr ⟨q, hq, rfl⟩
    obtain ⟨k, -, hk⟩ := List.mem_map.mp h1
    exact List.mem_of_getElem? hk) k
end GG
section GN
variable {p : Program} {l : Launch} {e : Env} {R : Room} {s : State} {m : MethodId} {args : Array Value} {below : List Frame} {meth : Method} {c : Code} {D : va_G} {dA : Nat → ClassId} {b0 n0 m0 nL nE mE : Nat} {Q : State → Prop} {pc : Nat} {lv : List (Nat × Nat × Int)} {st : List (Nat × Int)} {σ : Hp}
theorem g_nm {γ : Type} {z : γ} {t : Nat} {a : Int} {f : Int → Option γ} (hF : nm a f = some z) (k : ∀ x, f x = some z → G p l e R s m args below meth c D dA b0 n0 m0 nL nE mE Q pc lv ((t, x) :: st) σ) : G p l e R s m args below meth c D dA b0 n0 m0 nL nE mE Q pc lv ((t, a) :: st) σ := k a hF
end GN
end
section
section GA
variable {p : Program} {l : Launch} {e : Env} {R : Room} {s : State} {m : MethodId} {args : Array Value} {below : List Frame} {meth : Method} {c : Code} {D : va_G} {dA : Nat → ClassId} {b0 n0 m0 nL nE mE : Nat} {Q : State → Prop}
variable {cc : ByteArray} {own : String} {fr lo : Nat} {pc : Nat} {lv : List (Nat × Nat × Int)} {st : List (Nat × Int)} {σ : Hp}
theorem g_iadd (hX : Cx p R s m args meth c D dA b0 n0 m0 nL nE mE cc own fr lo) {a b : Int} (hd : decode cc pc = .ok (.iadd, 1)) (k : G p l e R s m args below meth c D dA b0 n0 m0 nL nE mE Q (pc + 1) lv ((0, a + b) :: st) σ) : G p l e R s m args below meth c D dA b0 n0 m0 nL nE mE Q pc lv ((0, b) :: (0, a) :: st) σ :=
  ⟨k.1, fun h1 h2 H locs ls hP hS hl => lv_iadd hX.1 hX.2.1 hd (by rw [iI_add]; exact k.2 h1 h2 H locs ls hP hS hl)⟩
theorem g_isub (hX : Cx p R s m args meth c D dA b0 n0 m0 nL nE mE cc own fr lo) {a b : Int} (hd : decode cc pc = .ok (.isub, 1)) (k : G p l e R s m args below meth c D dA b0 n0 m0 nL nE mE Q (pc + 1) lv ((0, a - b) :: st) σ) : G p l e R s m args below meth c D dA b0 n0 m0 nL nE mE Q pc lv ((0, b) :: (0, a) :: st) σ :=
  ⟨k.1, fun h1 h2 H locs ls hP hS hl => lv_isub hX.1 hX.2.1 hd (by rw [iI_sub]; exact k.2 h1 h2 H locs ls hP hS hl)⟩
theorem g_imul (hX : Cx p R s m args meth c D dA b0 n0 m0 nL nE mE cc own fr lo) {a b : Int} (hd : decode cc pc = .ok (.imul, 1)) (k : G p l e R s m args below meth c D dA b0 n0 m0 nL nE mE Q (pc + 1) lv ((0, a * b) :: st) σ) : G p l e R s m args below meth c D dA b0 n0 m0 nL nE mE Q pc lv ((0, b) :: (0, a) :: st) σ :=
  ⟨k.1, fun h1 h2 H locs ls hP hS hl => lv_imul hX.1 hX.2.1 hd (by rw [iI_mul]; exact k.2 h1 h2 H locs ls hP hS hl)⟩
theorem g_ladd (hX : Cx p R s m args meth c D dA b0 n0 m0 nL nE mE cc own fr lo) {a b : Int} (hd : decode cc pc = .ok (.ladd, 1)) (k : G p l e R s m args below meth c D dA b0 n0 m0 nL nE mE Q (pc + 1) lv ((1, a + b) :: st) σ) : G p l e R s m args below meth c D dA b0 n0 m0 nL nE mE Q pc lv ((1, b) :: (1, a) :: st) σ :=
  ⟨k.1, fun h1 h2 H locs ls hP hS hl => lv_ladd hX.1 hX.2.1 hd (by rw [lI_add]; exact k.2 h1 h2 H locs ls hP hS hl)⟩
theorem g_lsub (hX : Cx p R s m args meth c D dA b0 n0 m0 nL nE mE cc own fr lo) {a b : Int} (hd : decode cc pc = .ok (.lsub, 1)) (k : G p l e R s m args below meth c D dA b0 n0 m0 nL nE mE Q (pc + 1) lv ((1, a - b) :: st) σ) : G p l e R s m args below meth c D dA b0 n0 m0 nL nE mE Q pc lv ((1, b) :: (1, a) :: st) σ :=
  ⟨k.1, fun h1 h2 H locs ls hP hS hl => lv_lsub hX.1 hX.2.1 hd (by rw [lI_sub]; exact k.2 h1 h2 H locs ls hP hS hl)⟩
theorem g_lmul (hX : Cx p R s m args meth c D dA b0 n0 m0 nL nE mE cc own fr lo) {a b : Int} (hd : decode cc pc = .ok (.lmul, 1)) (k : G p l e R s m args below meth c D dA b0 n0 m0 nL nE mE Q (pc + 1) lv ((1, a * b) :: st) σ) : G p l e R s m args below meth c D dA b0 n0 m0 nL nE mE Q pc lv ((1, b) :: (1, a) :: st) σ :=
  ⟨k.1, fun h1 h2 H locs ls hP hS hl => lv_lmul hX.1 hX.2.1 hd (by rw [lI_mul]; exact k.2 h1 h2 H locs ls hP hS hl)⟩
theorem g_iand (hX : Cx p R s m args meth c D dA b0 n0 m0 nL nE mE cc own fr lo) {a b : Int} (hd : decode cc pc = .ok (.iand, 1)) (k : G p l e R s m args below meth c D dA b0 n0 m0 nL nE mE Q (pc + 1) lv ((0, andI a b) :: st) σ) : G p l e R s m args below meth c D dA b0 n0 m0 nL nE mE Q pc lv ((0, b) :: (0, a) :: st) σ :=
  ⟨k.1, fun h1 h2 H locs ls hP hS hl => lv_iand hX.1 hX.2.1 hd (by rw [← iI_back (iI a &&& iI b)]; exact k.2 h1 h2 H locs ls hP hS hl)⟩
theorem g_ior (hX : Cx p R s m args meth c D dA b0 n0 m0 nL nE mE cc own fr lo) {a b : Int} (hd : decode cc pc = .ok (.ior, 1)) (k : G p l e R s m args below meth c D dA b0 n0 m0 nL nE mE Q (pc + 1) lv ((0, orI a b) :: st) σ) : G p l e R s m args below meth c D dA b0 n0 m0 nL nE mE Q pc lv ((0, b) :: (0, a) :: st) σ :=
  ⟨k.1, fun h1 h2 H locs ls hP hS hl => lv_ior hX.1 hX.2.1 hd (by rw [← iI_back (iI a ||| iI b)]; exact k.2 h1 h2 H locs ls hP hS hl)⟩
theorem g_ishl (hX : Cx p R s m args meth c D dA b0 n0 m0 nL nE mE cc own fr lo) {a b : Int} (hd : decode cc pc = .ok (.ishl, 1)) (k : G p l e R s m args below meth c D dA b0 n0 m0 nL nE mE Q (pc + 1) lv ((0, shlI a b) :: st) σ) : G p l e R s m args below meth c D dA b0 n0 m0 nL nE mE Q pc lv ((0, b) :: (0, a) :: st) σ :=
  ⟨k.1, fun h1 h2 H locs ls hP hS hl => lv_ishl hX.1 hX.2.1 hd (by rw [← iI_back (iI a <<< (iI b &&& 31))]; exact k.2 h1 h2 H locs ls hP hS hl)⟩
theorem g_ishr (hX : Cx p R s m args meth c D dA b0 n0 m0 nL nE mE cc own fr lo) {a b : Int} (hd : decode cc pc = .ok (.ishr, 1)) (k : G p l e R s m args below meth c D dA b0 n0 m0 nL nE mE Q (pc + 1) lv ((0, shrI a b) :: st) σ) : G p l e R s m args below meth c D dA b0 n0 m0 nL nE mE Q pc lv ((0, b) :: (0, a) :: st) σ :=
  ⟨k.1, fun h1 h2 H locs ls hP hS hl => lv_ishr hX.1 hX.2.1 hd (by rw [← iI_back (iI a >>> (iI b &&& 31))]; exact k.2 h1 h2 H locs ls hP hS hl)⟩
theorem g_land (hX : Cx p R s m args meth c D dA b0 n0 m0 nL nE mE cc own fr lo) {a b : Int} (hd : decode cc pc = .ok (.land, 1)) (k : G p l e R s m args below meth c D dA b0 n0 m0 nL nE mE Q (pc + 1) lv ((1, andL a b) :: st) σ) : G p l e R s m args below meth c D dA b0 n0 m0 nL nE mE Q pc lv ((1, b) :: (1, a) :: st) σ :=
  ⟨k.1, fun h1 h2 H locs ls hP hS hl => lv_land hX.1 hX.2.1 hd (by rw [← lI_back (lI a &&& lI b)]; exact k.2 h1 h2 H locs ls hP hS hl)⟩
theorem g_lor (hX : Cx p R s m args meth c D dA b0 n0 m0 nL nE mE cc own fr lo) {a b : Int} (hd : decode cc pc = .ok (.lor, 1)) (k : G p l e R s m args below meth c D dA b0 n0 m0 nL nE mE Q (pc + 1) lv ((1, orL a b) :: st) σ) : G p l e R s m args below meth c D dA b0 n0 m0 nL nE mE Q pc lv ((1, b) :: (1, a) :: st) σ :=
  ⟨k.1, fun h1 h2 H locs ls hP hS hl => lv_lor hX.1 hX.2.1 hd (by rw [← lI_back (lI a ||| lI b)]; exact k.2 h1 h2 H locs ls hP hS hl)⟩
theorem g_lshl (hX : Cx p R s m args meth c D dA b0 n0 m0 nL nE mE cc own fr lo) {a b : Int} (hd : decode cc pc = .ok (.lshl, 1)) (k : G p l e R s m args below meth c D dA b0 n0 m0 nL nE mE Q (pc + 1) lv ((1, shlL a b) :: st) σ) : G p l e R s m args below meth c D dA b0 n0 m0 nL nE mE Q pc lv ((0, b) :: (1, a) :: st) σ :=
  ⟨k.1, fun h1 h2 H locs ls hP hS hl => lv_lshl hX.1 hX.2.1 hd (lI_back _).symm (k.2 h1 h2 H locs ls hP hS hl)⟩
section WithF
variable {γ : Type} {z : γ} {T E : Option γ} {a b : Int}
theorem g_idiv (hX : Cx p R s m args meth c D dA b0 n0 m0 nL nE mE cc own fr lo) (hd : decode cc pc = .ok (.idiv, 1)) (hF : gD a b T = some z) (k : T = some z → G p l e R s m args below meth c D dA b0 n0 m0 nL nE mE Q (pc + 1) lv ((0, a.tdiv b) :: st) σ) : G p l e R s m args below meth c D dA b0 n0 m0 nL nE mE Q pc lv ((0, b) :: (0, a) :: st) σ := by
  unfold gD at hF
  split at hF
  · rename_i h
    refine ⟨(k hF).1, fun h1 h2 H locs ls hP hS hl => lv_idiv hX.1 hX.2.1 hd (fun q => h.2.2 ?_) (by rw [iI_div h.1 h.2.1]; exact (k hF).2 h1 h2 H locs ls hP hS hl)⟩
    exact (iI_eq h.2.1 (by decide)).mp q
  · cases hF
theorem g_irem (hX : Cx p R s m args meth c D dA b0 n0 m0 nL nE mE cc own fr lo) (hd : decode cc pc = .ok (.irem, 1)) (hF : gD a b T = some z) (k : T = some z → G p l e R s m args below meth c D dA b0 n0 m0 nL nE mE Q (pc + 1) lv ((0, a.tmod b) :: st) σ) : G p l e R s m args below meth c D dA b0 n0 m0 nL nE mE Q pc lv ((0, b) :: (0, a) :: st) σ := by
  unfold gD at hF
  split at hF
  · rename_i h
    refine ⟨(k hF).1, fun h1 h2 H locs ls hP hS hl => lv_irem hX.1 hX.2.1 hd (fun q => h.2.2 ?_) (by
      have e1 : iI a - iI a / iI b * iI b = iI (a.tmod b) := by rw [iI_div h.1 h.2.1, iI_mul, iI_sub, Int.tmod_def, Int.mul_comm]
      have k2 : W p l e R s m args below meth c H locs (σ.1 - n0) (σ.2.1 - m0) Q (F0 m (pc + 1) ls (.int (iI (a.tmod b)) :: st.map pVs)) := (k hF).2 h1 h2 H locs ls hP hS hl
      rw [← e1] at k2
      exact k2)⟩
    exact (iI_eq h.2.1 (by decide)).mp q
  · cases hF
theorem g_i2l (hX : Cx p R s m args meth c D dA b0 n0 m0 nL nE mE cc own fr lo) (hd : decode cc pc = .ok (.i2l, 1)) (hF : g3 a T = some z) (k : T = some z → G p l e R s m args below meth c D dA b0 n0 m0 nL nE mE Q (pc + 1) lv ((1, a) :: st) σ) : G p l e R s m args below meth c D dA b0 n0 m0 nL nE mE Q pc lv ((0, a) :: st) σ := by
  unfold g3 at hF
  split at hF
  · rename_i h
    exact ⟨(k hF).1, fun h1 h2 H locs ls hP hS hl => lv_i2l hX.1 hX.2.1 hd (iI_long h) ((k hF).2 h1 h2 H locs ls hP hS hl)⟩
  · cases hF
theorem g_lcmp (hX : Cx p R s m args meth c D dA b0 n0 m0 nL nE mE cc own fr lo) (hd : decode cc pc = .ok (.lcmp, 1)) (hF : g66 a b T = some z) (k : T = some z → G p l e R s m args below meth c D dA b0 n0 m0 nL nE mE Q (pc + 1) lv ((0, cmpL a b) :: st) σ) : G p l e R s m args below meth c D dA b0 n0 m0 nL nE mE Q pc lv ((1, b) :: (1, a) :: st) σ := by
  unfold g66 at hF
  split at hF
  · rename_i h
    exact ⟨(k hF).1, fun h1 h2 H locs ls hP hS hl => W.lcmp hX.1 hX.2.1 hd (by rw [lI_cmp h.1 h.2]; exact (k hF).2 h1 h2 H locs ls hP hS hl)⟩
  · cases hF
theorem bLt_spec (hF : bLt a b T E = some z) : R3 a ∧ R3 b ∧ ((a < b ∧ T = some z) ∨ (¬ a < b ∧ E = some z)) := by
  unfold bLt at hF
  split at hF
  · rename_i h
    split at hF
    · exact ⟨h.1, h.2, Or.inl ⟨by assumption, hF⟩⟩
    · exact ⟨h.1, h.2, Or.inr ⟨by assumption, hF⟩⟩
  · cases hF
theorem bLe_spec (hF : bLe a b T E = some z) : R3 a ∧ R3 b ∧ ((a ≤ b ∧ T = some z) ∨ (¬ a ≤ b ∧ E = some z)) := by
  unfold bLe at hF
  split at hF
  · rename_i h
    split at hF
    · exact ⟨h.1, h.2, Or.inl ⟨by assumption, hF⟩⟩
    · exact ⟨h.1, h.2, Or.inr ⟨by assumption, hF⟩⟩
  · cases hF
theorem bEq_spec (hF : bEq a b T E = some z) : R3 a ∧ R3 b ∧ ((a = b ∧ T = some z) ∨ (¬ a = b ∧ E = some z)) := by
  unfold bEq at hF
  split at hF
  · rename_i h
    split at hF
    · exact ⟨h.1, h.2, Or.inl ⟨by assumption, hF⟩⟩
    · exact ⟨h.1, h.2, Or.inr ⟨by assumption, hF⟩⟩
  · cases hF
theorem g_dec_lt {a b : Int} (ra : R3 a) (rb : R3 b) (h : a < b) : iI a < iI b := (iI_lt ra rb).mpr h
theorem g_den_lt {a b : Int} (ra : R3 a) (rb : R3 b) (h : ¬ a < b) : ¬ iI a < iI b := fun q => h ((iI_lt ra rb).mp q)
theorem g_dec_le {a b : Int} (ra : R3 a) (rb : R3 b) (h : a ≤ b) : iI a ≤ iI b := (iI_le ra rb).mpr h
theorem g_den_le {a b : Int} (ra : R3 a) (rb : R3 b) (h : ¬ a ≤ b) : ¬ iI a ≤ iI b := fun q => h ((iI_le ra rb).mp q)
theorem g_dec_eq {a b : Int} (ra : R3 a) (rb : R3 b) (h : a = b) : iI a = iI b := by rw [h]
theorem g_den_eq {a b : Int} (ra : R3 a) (rb : R3 b) (h : ¬ a = b) : ¬ iI a = iI b := fun q => h ((iI_eq ra rb).mp q)
theorem g_dec_ne {a b : Int} (ra : R3 a) (rb : R3 b) (h : a = b) : ¬ ¬ iI a = iI b := fun q => q (by rw [h])
theorem g_den_ne {a b : Int} (ra : R3 a) (rb : R3 b) (h : ¬ a = b) : ¬ iI a = iI b := fun q => h ((iI_eq ra rb).mp q)
theorem g_dec_ge {a b : Int} (ra : R3 a) (rb : R3 b) (h : a < b) : ¬ iI a ≥ iI b := fun q => absurd ((iI_le rb ra).mp q) (by omega)
theorem g_den_ge {a b : Int} (ra : R3 a) (rb : R3 b) (h : ¬ a < b) : iI a ≥ iI b := (iI_le rb ra).mpr (by omega)
theorem g_dec_gt {a b : Int} (ra : R3 a) (rb : R3 b) (h : a ≤ b) : ¬ iI a > iI b := fun q => absurd ((iI_lt rb ra).mp q) (by omega)
theorem g_den_gt {a b : Int} (ra : R3 a) (rb : R3 b) (h : ¬ a ≤ b) : iI a > iI b := (iI_lt rb ra).mpr (by omega)
theorem g_icmp_lt (hX : Cx p R s m args meth c D dA b0 n0 m0 nL nE mE cc own fr lo) {off : Int} {tgt : Nat} (hd : decode cc pc = .ok (.if_icmp .lt off, 3)) (ht : (pc : Int) + off = (tgt : Int)) (hF : bLt a b T E = some z) (kT : a < b → T = some z → G p l e R s m args below meth c D dA b0 n0 m0 nL nE mE Q tgt lv st σ) (kE : ¬ a < b → E = some z → G p l e R s m args below meth c D dA b0 n0 m0 nL nE mE Q (pc + 3) lv st σ) : G p l e R s m args below meth c D dA b0 n0 m0 nL nE mE Q pc lv ((0, b) :: (0, a) :: st) σ := by
  obtain ⟨ra, rb, h⟩ := bLt_spec hF
  rcases h with ⟨h, hF⟩ | ⟨h, hF⟩
  · have k := kT h hF
    exact ⟨k.1, fun h1 h2 H locs ls hP hS hl => lv_icmp_lt hX.1 hX.2.1 hd ht (fun q => by first | exact k.2 h1 h2 H locs ls hP hS hl | exact absurd q (g_dec_lt ra rb h)) (fun q => by first | exact k.2 h1 h2 H locs ls hP hS hl | exact absurd (g_dec_lt ra rb h) q | exact absurd q (g_dec_lt ra rb h))⟩
  · have k := kE h hF
    exact ⟨k.1, fun h1 h2 H locs ls hP hS hl => lv_icmp_lt hX.1 hX.2.1 hd ht (fun q => by first | exact k.2 h1 h2 H locs ls hP hS hl | exact absurd q (g_den_lt ra rb h)) (fun q => by first | exact k.2 h1 h2 H locs ls hP hS hl | exact absurd (g_den_lt ra rb h) q | exact absurd q (g_den_lt ra rb h))⟩
theorem g_if_lt (hX : Cx p R s m args meth c D dA b0 n0 m0 nL nE mE cc own fr lo) {off : Int} {tgt : Nat} (hd : decode cc pc = .ok (.ifCond .lt off, 3)) (ht : (pc : Int) + off = (tgt : Int)) (hF : bLt a 0 T E = some z) (kT : a < 0 → T = some z → G p l e R s m args below meth c D dA b0 n0 m0 nL nE mE Q tgt lv st σ) (kE : ¬ a < 0 → E = some z → G p l e R s m args below meth c D dA b0 n0 m0 nL nE mE Q (pc + 3) lv st σ) : G p l e R s m args below meth c D dA b0 n0 m0 nL nE mE Q pc lv ((0, a) :: st) σ := by
  obtain ⟨ra, rb, h⟩ := bLt_spec hF
  rcases h with ⟨h, hF⟩ | ⟨h, hF⟩
  · have k := kT h hF
    exact ⟨k.1, fun h1 h2 H locs ls hP hS hl => lv_if_lt hX.1 hX.2.1 hd ht (fun q => by first | exact k.2 h1 h2 H locs ls hP hS hl | exact absurd q (g_dec_lt ra rb h)) (fun q => by first | exact k.2 h1 h2 H locs ls hP hS hl | exact absurd (g_dec_lt ra rb h) q | exact absurd q (g_dec_lt ra rb h))⟩
  · have k := kE h hF
    exact ⟨k.1, fun h1 h2 H locs ls hP hS hl => lv_if_lt hX.1 hX.2.1 hd ht (fun q => by first | exact k.2 h1 h2 H locs ls hP hS hl | exact absurd q (g_den_lt ra rb h)) (fun q => by first | exact k.2 h1 h2 H locs ls hP hS hl | exact absurd (g_den_lt ra rb h) q | exact absurd q (g_den_lt ra rb h))⟩
theorem g_icmp_ge (hX : Cx p R s m args meth c D dA b0 n0 m0 nL nE mE cc own fr lo) {off : Int} {tgt : Nat} (hd : decode cc pc = .ok (.if_icmp .ge off, 3)) (ht : (pc : Int) + off = (tgt : Int)) (hF : bLt a b T E = some z) (kT : a < b → T = some z → G p l e R s m args below meth c D dA b0 n0 m0 nL nE mE Q (pc + 3) lv st σ) (kE : ¬ a < b → E = some z → G p l e R s m args below meth c D dA b0 n0 m0 nL nE mE Q tgt lv st σ) : G p l e R s m args below meth c D dA b0 n0 m0 nL nE mE Q pc lv ((0, b) :: (0, a) :: st) σ := by
  obtain ⟨ra, rb, h⟩ := bLt_spec hF
  rcases h with ⟨h, hF⟩ | ⟨h, hF⟩
  · have k := kT h hF
    exact ⟨k.1, fun h1 h2 H locs ls hP hS hl => lv_icmp_ge hX.1 hX.2.1 hd ht (fun q => by first | exact k.2 h1 h2 H locs ls hP hS hl | exact absurd q (g_dec_ge ra rb h)) (fun q => by first | exact k.2 h1 h2 H locs ls hP hS hl | exact absurd (g_dec_ge ra rb h) q | exact absurd q (g_dec_ge ra rb h))⟩
  · have k := kE h hF
    exact ⟨k.1, fun h1 h2 H locs ls hP hS hl => lv_icmp_ge hX.1 hX.2.1 hd ht (fun q => by first | exact k.2 h1 h2 H locs ls hP hS hl | exact absurd q (g_den_ge ra rb h)) (fun q => by first | exact k.2 h1 h2 H locs ls hP hS hl | exact absurd (g_den_ge ra rb h) q | exact absurd q (g_den_ge ra rb h))⟩
theorem g_if_ge (hX : Cx p R s m args meth c D dA b0 n0 m0 nL nE mE cc own fr lo) {off : Int} {tgt : Nat} (hd : decode cc pc = .ok (.ifCond .ge off, 3)) (ht : (pc : Int) + off = (tgt : Int)) (hF : bLt a 0 T E = some z) (kT : a < 0 → T = some z → G p l e R s m args below meth c D dA b0 n0 m0 nL nE mE Q (pc + 3) lv st σ) (kE : ¬ a < 0 → E = some z → G p l e R s m args below meth c D dA b0 n0 m0 nL nE mE Q tgt lv st σ) : G p l e R s m args below meth c D dA b0 n0 m0 nL nE mE Q pc lv ((0, a) :: st) σ := by
  obtain ⟨ra, rb, h⟩ := bLt_spec hF
  rcases h with ⟨h, hF⟩ | ⟨h, hF⟩
  · have k := kT h hF
    exact ⟨k.1, fun h1 h2 H locs ls hP hS hl => lv_if_ge hX.1 hX.2.1 hd ht (fun q => by first | exact k.2 h1 h2 H locs ls hP hS hl | exact absurd q (g_dec_ge ra rb h)) (fun q => by first | exact k.2 h1 h2 H locs ls hP hS hl | exact absurd (g_dec_ge ra rb h) q | exact absurd q (g_dec_ge ra rb h))⟩
  · have k := kE h hF
    exact ⟨k.1, fun h1 h2 H locs ls hP hS hl => lv_if_ge hX.1 hX.2.1 hd ht (fun q => by first | exact k.2 h1 h2 H locs ls hP hS hl | exact absurd q (g_den_ge ra rb h)) (fun q => by first | exact k.2 h1 h2 H locs ls hP hS hl | exact absurd (g_den_ge ra rb h) q | exact absurd q (g_den_ge ra rb h))⟩
theorem g_icmp_le (hX : Cx p R s m args meth c D dA b0 n0 m0 nL nE mE cc own fr lo) {off : Int} {tgt : Nat} (hd : decode cc pc = .ok (.if_icmp .le off, 3)) (ht : (pc : Int) + off = (tgt : Int)) (hF : bLe a b T E = some z) (kT : a ≤ b → T = some z → G p l e R s m args below meth c D dA b0 n0 m0 nL nE mE Q tgt lv st σ) (kE : ¬ a ≤ b → E = some z → G p l e R s m args below meth c D dA b0 n0 m0 nL nE mE Q (pc + 3) lv st σ) : G p l e R s m args below meth c D dA b0 n0 m0 nL nE mE Q pc lv ((0, b) :: (0, a) :: st) σ := by
  obtain ⟨ra, rb, h⟩ := bLe_spec hF
  rcases h with ⟨h, hF⟩ | ⟨h, hF⟩
  · have k := kT h hF
    exact ⟨k.1, fun h1 h2 H locs ls hP hS hl => lv_icmp_le hX.1 hX.2.1 hd ht (fun q => by first | exact k.2 h1 h2 H locs ls hP hS hl | exact absurd q (g_dec_le ra rb h)) (fun q => by first | exact k.2 h1 h2 H locs ls hP hS hl | exact absurd (g_dec_le ra rb h) q | exact absurd q (g_dec_le ra rb h))⟩
  · have k := kE h hF
    exact ⟨k.1, fun h1 h2 H locs ls hP hS hl => lv_icmp_le hX.1 hX.2.1 hd ht (fun q => by first | exact k.2 h1 h2 H locs ls hP hS hl | exact absurd q (g_den_le ra rb h)) (fun q => by first | exact k.2 h1 h2 H locs ls hP hS hl | exact absurd (g_den_le ra rb h) q | exact absurd q (g_den_le ra rb h))⟩
theorem g_if_le (hX : Cx p R s m args meth c D dA b0 n0 m0 nL nE mE cc own fr lo) {off : Int} {tgt : Nat} (hd : decode cc pc = .ok (.ifCond .le off, 3)) (ht : (pc : Int) + off = (tgt : Int)) (hF : bLe a 0 T E = some z) (kT : a ≤ 0 → T = some z → G p l e R s m args below meth c D dA b0 n0 m0 nL nE mE Q tgt lv st σ) (kE : ¬ a ≤ 0 → E = some z → G p l e R s m args below meth c D dA b0 n0 m0 nL nE mE Q (pc + 3) lv st σ) : G p l e R s m args below meth c D dA b0 n0 m0 nL nE mE Q pc lv ((0, a) :: st) σ := by
  obtain ⟨ra, rb, h⟩ := bLe_spec hF
  rcases h with ⟨h, hF⟩ | ⟨h, hF⟩
  · have k := kT h hF
    exact ⟨k.1, fun h1 h2 H locs ls hP hS hl => lv_if_le hX.1 hX.2.1 hd ht (fun q => by first | exact k.2 h1 h2 H locs ls hP hS hl | exact absurd q (g_dec_le ra rb h)) (fun q => by first | exact k.2 h1 h2 H locs ls hP hS hl | exact absurd (g_dec_le ra rb h) q | exact absurd q (g_dec_le ra rb h))⟩
  · have k := kE h hF
    exact ⟨k.1, fun h1 h2 H locs ls hP hS hl => lv_if_le hX.1 hX.2.1 hd ht (fun q => by first | exact k.2 h1 h2 H locs ls hP hS hl | exact absurd q (g_den_le ra rb h)) (fun q => by first | exact k.2 h1 h2 H locs ls hP hS hl | exact absurd (g_den_le ra rb h) q | exact absurd q (g_den_le ra rb h))⟩
theorem g_icmp_gt (hX : Cx p R s m args meth c D dA b0 n0 m0 nL nE mE cc own fr lo) {off : Int} {tgt : Nat} (hd : decode cc pc = .ok (.if_icmp .gt off, 3)) (ht : (pc : Int) + off = (tgt : Int)) (hF : bLe a b T E = some z) (kT : a ≤ b → T = some z → G p l e R s m args below meth c D dA b0 n0 m0 nL nE mE Q (pc + 3) lv st σ) (kE : ¬ a ≤ b → E = some z → G p l e R s m args below meth c D dA b0 n0 m0 nL nE mE Q tgt lv st σ) : G p l e R s m args below meth c D dA b0 n0 m0 nL nE mE Q pc lv ((0, b) :: (0, a) :: st) σ := by
  obtain ⟨ra, rb, h⟩ := bLe_spec hF
  rcases h with ⟨h, hF⟩ | ⟨h, hF⟩
  · have k := kT h hF
    exact ⟨k.1, fun h1 h2 H locs ls hP hS hl => lv_icmp_gt hX.1 hX.2.1 hd ht (fun q => by first | exact k.2 h1 h2 H locs ls hP hS hl | exact absurd q (g_dec_gt ra rb h)) (fun q => by first | exact k.2 h1 h2 H locs ls hP hS hl | exact absurd (g_dec_gt ra rb h) q | exact absurd q (g_dec_gt ra rb h))⟩
  · have k := kE h hF
    exact ⟨k.1, fun h1 h2 H locs ls hP hS hl => lv_icmp_gt hX.1 hX.2.1 hd ht (fun q => by first | exact k.2 h1 h2 H locs ls hP hS hl | exact absurd q (g_den_gt ra rb h)) (fun q => by first | exact k.2 h1 h2 H locs ls hP hS hl | exact absurd (g_den_gt ra rb h) q | exact absurd q (g_den_gt ra rb h))⟩
theorem g_if_gt (hX : Cx p R s m args meth c D dA b0 n0 m0 nL nE mE cc own fr lo) {off : Int} {tgt : Nat} (hd : decode cc pc = .ok (.ifCond .gt off, 3)) (ht : (pc : Int) + off = (tgt : Int)) (hF : bLe a 0 T E = some z) (kT : a ≤ 0 → T = some z → G p l e R s m args below meth c D dA b0 n0 m0 nL nE mE Q (pc + 3) lv st σ) (kE : ¬ a ≤ 0 → E = some z → G p l e R s m args below meth c D dA b0 n0 m0 nL nE mE Q tgt lv st σ) : G p l e R s m args below meth c D dA b0 n0 m0 nL nE mE Q pc lv ((0, a) :: st) σ := by
  obtain ⟨ra, rb, h⟩ := bLe_spec hF
  rcases h with ⟨h, hF⟩ | ⟨h, hF⟩
  · have k := kT h hF
    exact ⟨k.1, fun h1 h2 H locs ls hP hS hl => lv_if_gt hX.1 hX.2.1 hd ht (fun q => by first | exact k.2 h1 h2 H locs ls hP hS hl | exact absurd q (g_dec_gt ra rb h)) (fun q => by first | exact k.2 h1 h2 H locs ls hP hS hl | exact absurd (g_dec_gt ra rb h) q | exact absurd q (g_dec_gt ra rb h))⟩
  · have k := kE h hF
    exact ⟨k.1, fun h1 h2 H locs ls hP hS hl => lv_if_gt hX.1 hX.2.1 hd ht (fun q => by first | exact k.2 h1 h2 H locs ls hP hS hl | exact absurd q (g_den_gt ra rb h)) (fun q => by first | exact k.2 h1 h2 H locs ls hP hS hl | exact absurd (g_den_gt ra rb h) q | exact absurd q (g_den_gt ra rb h))⟩
theorem g_icmp_eq (hX : Cx p R s m args meth c D dA b0 n0 m0 nL nE mE cc own fr lo) {off : Int} {tgt : Nat} (hd : decode cc pc = .ok (.if_icmp .eq off, 3)) (ht : (pc : Int) + off = (tgt : Int)) (hF : bEq a b T E = some z) (kT : a = b → T = some z → G p l e R s m args below meth c D dA b0 n0 m0 nL nE mE Q tgt lv st σ) (kE : ¬ a = b → E = some z → G p l e R s m args below meth c D dA b0 n0 m0 nL nE mE Q (pc + 3) lv st σ) : G p l e R s m args below meth c D dA b0 n0 m0 nL nE mE Q pc lv ((0, b) :: (0, a) :: st) σ := by
  obtain ⟨ra, rb, h⟩ := bEq_spec hF
  rcases h with ⟨h, hF⟩ | ⟨h, hF⟩
  · have k := kT h hF
    exact ⟨k.1, fun h1 h2 H locs ls hP hS hl => lv_icmp_eq hX.1 hX.2.1 hd ht (fun q => by first | exact k.2 h1 h2 H locs ls hP hS hl | exact absurd q (g_dec_eq ra rb h)) (fun q => by first | exact k.2 h1 h2 H locs ls hP hS hl | exact absurd (g_dec_eq ra rb h) q | exact absurd q (g_dec_eq ra rb h))⟩
  · have k := kE h hF
    exact ⟨k.1, fun h1 h2 H locs ls hP hS hl => lv_icmp_eq hX.1 hX.2.1 hd ht (fun q => by first | exact k.2 h1 h2 H locs ls hP hS hl | exact absurd q (g_den_eq ra rb h)) (fun q => by first | exact k.2 h1 h2 H locs ls hP hS hl | exact absurd (g_den_eq ra rb h) q | exact absurd q (g_den_eq ra rb h))⟩
theorem g_if_eq (hX : Cx p R s m args meth c D dA b0 n0 m0 nL nE mE cc own fr lo) {off : Int} {tgt : Nat} (hd : decode cc pc = .ok (.ifCond .eq off, 3)) (ht : (pc : Int) + off = (tgt : Int)) (hF : bEq a 0 T E = some z) (kT : a = 0 → T = some z → G p l e R s m args below meth c D dA b0 n0 m0 nL nE mE Q tgt lv st σ) (kE : ¬ a = 0 → E = some z → G p l e R s m args below meth c D dA b0 n0 m0 nL nE mE Q (pc + 3) lv st σ) : G p l e R s m args below meth c D dA b0 n0 m0 nL nE mE Q pc lv ((0, a) :: st) σ := by
  obtain ⟨ra, rb, h⟩ := bEq_spec hF
  rcases h with ⟨h, hF⟩ | ⟨h, hF⟩
  · have k := kT h hF
    exact ⟨k.1, fun h1 h2 H locs ls hP hS hl => lv_if_eq hX.1 hX.2.1 hd ht (fun q => by first | exact k.2 h1 h2 H locs ls hP hS hl | exact absurd q (g_dec_eq ra rb h)) (fun q => by first | exact k.2 h1 h2 H locs ls hP hS hl | exact absurd (g_dec_eq ra rb h) q | exact absurd q (g_dec_eq ra rb h))⟩
  · have k := kE h hF
    exact ⟨k.1, fun h1 h2 H locs ls hP hS hl => lv_if_eq hX.1 hX.2.1 hd ht (fun q => by first | exact k.2 h1 h2 H locs ls hP hS hl | exact absurd q (g_den_eq ra rb h)) (fun q => by first | exact k.2 h1 h2 H locs ls hP hS hl | exact absurd (g_den_eq ra rb h) q | exact absurd q (g_den_eq ra rb h))⟩
theorem g_icmp_ne (hX : Cx p R s m args meth c D dA b0 n0 m0 nL nE mE cc own fr lo) {off : Int} {tgt : Nat} (hd : decode cc pc = .ok (.if_icmp .ne off, 3)) (ht : (pc : Int) + off = (tgt : Int)) (hF : bEq a b T E = some z) (kT : a = b → T = some z → G p l e R s m args below meth c D dA b0 n0 m0 nL nE mE Q (pc + 3) lv st σ) (kE : ¬ a = b → E = some z → G p l e R s m args below meth c D dA b0 n0 m0 nL nE mE Q tgt lv st σ) : G p l e R s m args below meth c D dA b0 n0 m0 nL nE mE Q pc lv ((0, b) :: (0, a) :: st) σ := by
  obtain ⟨ra, rb, h⟩ := bEq_spec hF
  rcases h with ⟨h, hF⟩ | ⟨h, hF⟩
  · have k := kT h hF
    exact ⟨k.1, fun h1 h2 H locs ls hP hS hl => lv_icmp_ne hX.1 hX.2.1 hd ht (fun q => by first | exact k.2 h1 h2 H locs ls hP hS hl | exact absurd q (g_dec_ne ra rb h)) (fun q => by first | exact k.2 h1 h2 H locs ls hP hS hl | exact absurd (g_dec_ne ra rb h) q | exact absurd q (g_dec_ne ra rb h))⟩
  · have k := kE h hF
    exact ⟨k.1, fun h1 h2 H locs ls hP hS hl => lv_icmp_ne hX.1 hX.2.1 hd ht (fun q => by first | exact k.2 h1 h2 H locs ls hP hS hl | exact absurd q (g_den_ne ra rb h)) (fun q => by first | exact k.2 h1 h2 H locs ls hP hS hl | exact absurd (g_den_ne ra rb h) q | exact absurd q (g_den_ne ra rb h))⟩
theorem g_if_ne (hX : Cx p R s m args meth c D dA b0 n0 m0 nL nE mE cc own fr lo) {off : Int} {tgt : Nat} (hd : decode cc pc = .ok (.ifCond .ne off, 3)) (ht : (pc : Int) + off = (tgt : Int)) (hF : bEq a 0 T E = some z) (kT : a = 0 → T = some z → G p l e R s m args below meth c D dA b0 n0 m0 nL nE mE Q (pc + 3) lv st σ) (kE : ¬ a = 0 → E = some z → G p l e R s m args below meth c D dA b0 n0 m0 nL nE mE Q tgt lv st σ) : G p l e R s m args below meth c D dA b0 n0 m0 nL nE mE Q pc lv ((0, a) :: st) σ := by
  obtain ⟨ra, rb, h⟩ := bEq_spec hF
  rcases h with ⟨h, hF⟩ | ⟨h, hF⟩
  · have k := kT h hF
    exact ⟨k.1, fun h1 h2 H locs ls hP hS hl => lv_if_ne hX.1 hX.2.1 hd ht (fun q => by first | exact k.2 h1 h2 H locs ls hP hS hl | exact absurd q (g_dec_ne ra rb h)) (fun q => by first | exact k.2 h1 h2 H locs ls hP hS hl | exact absurd (g_dec_ne ra rb h) q | exact absurd q (g_dec_ne ra rb h))⟩
  · have k := kE h hF
    exact ⟨k.1, fun h1 h2 H locs ls hP hS hl => lv_if_ne hX.1 hX.2.1 hd ht (fun q => by first | exact k.2 h1 h2 H locs ls hP hS hl | exact absurd q (g_den_ne ra rb h)) (fun q => by first | exact k.2 h1 h2 H locs ls hP hS hl | exact absurd (g_den_ne ra rb h) q | exact absurd q (g_den_ne ra rb h))⟩
end WithF
end GA
end
section
section GB
variable {p : Program} {l : Launch} {e : Env} {R : Room} {s : State} {m : MethodId} {args : Array Value} {below : List Frame} {meth : Method} {c : Code} {D : va_G} {dA : Nat → ClassId} {b0 n0 m0 nL nE mE : Nat} {Q : State → Prop}
variable {cc : ByteArray} {own : String} {fr lo : Nat} {pc : Nat} {lv : List (Nat × Nat × Int)} {st : List (Nat × Int)} {σ : Hp}
variable {γ : Type} {z : γ} {T E : Option γ} {a b : Int}
theorem g_dup (hX : Cx p R s m args meth c D dA b0 n0 m0 nL nE mE cc own fr lo) {t : Nat} {v : Int} (hd : decode cc pc = .ok (.dup, 1)) (ht : t ≠ 1) (k : G p l e R s m args below meth c D dA b0 n0 m0 nL nE mE Q (pc + 1) lv ((t, v) :: (t, v) :: st) σ) : G p l e R s m args below meth c D dA b0 n0 m0 nL nE mE Q pc lv ((t, v) :: st) σ :=
  ⟨k.1, fun h1 h2 H locs ls hP hS hl => lv_dup hX.1 hX.2.1 hd (by show (pV t v).category = 1; rw [pV_cat, if_neg ht]) (k.2 h1 h2 H locs ls hP hS hl)⟩
theorem g_dup2 (hX : Cx p R s m args meth c D dA b0 n0 m0 nL nE mE cc own fr lo) {t t' : Nat} {v v' : Int} (hd : decode cc pc = .ok (.dup2, 1)) (ht : t ≠ 1) (ht' : t' ≠ 1) (k : G p l e R s m args below meth c D dA b0 n0 m0 nL nE mE Q (pc + 1) lv ((t, v) :: (t', v') :: (t, v) :: (t', v') :: st) σ) : G p l e R s m args below meth c D dA b0 n0 m0 nL nE mE Q pc lv ((t, v) :: (t', v') :: st) σ :=
  ⟨k.1, fun h1 h2 H locs ls hP hS hl => lv_dup2_11 hX.1 hX.2.1 hd (by show (pV t v).category = 1; rw [pV_cat, if_neg ht]) (by show (pV t' v').category = 1; rw [pV_cat, if_neg ht']) (k.2 h1 h2 H locs ls hP hS hl)⟩
theorem g_pop2 (hX : Cx p R s m args meth c D dA b0 n0 m0 nL nE mE cc own fr lo) {v : Int} (hd : decode cc pc = .ok (.pop2, 1)) (k : G p l e R s m args below meth c D dA b0 n0 m0 nL nE mE Q (pc + 1) lv st σ) : G p l e R s m args below meth c D dA b0 n0 m0 nL nE mE Q pc lv ((1, v) :: st) σ :=
  ⟨k.1, fun h1 h2 H locs ls hP hS hl => lv_pop2_2 hX.1 hX.2.1 hd (by show (pV 1 v).category = 2; rfl) (k.2 h1 h2 H locs ls hP hS hl)⟩
theorem g_goto (hX : Cx p R s m args meth c D dA b0 n0 m0 nL nE mE cc own fr lo) {off : Int} {tgt : Nat} (hd : decode cc pc = .ok (.goto off, 3)) (ht : (pc : Int) + off = (tgt : Int)) (k : G p l e R s m args below meth c D dA b0 n0 m0 nL nE mE Q tgt lv st σ) : G p l e R s m args below meth c D dA b0 n0 m0 nL nE mE Q pc lv st σ :=
  ⟨k.1, fun h1 h2 H locs ls hP hS hl => lv_goto hX.1 hX.2.1 hd ht (k.2 h1 h2 H locs ls hP hS hl)⟩
theorem g_ifnull (hX : Cx p R s m args meth c D dA b0 n0 m0 nL nE mE cc own fr lo) {off : Int} {tgt : Nat} (hd : decode cc pc = .ok (.ifnull off, 3)) (ht : (pc : Int) + off = (tgt : Int)) (hF : bN a T E = some z) (kT : a < 0 → T = some z → G p l e R s m args below meth c D dA b0 n0 m0 nL nE mE Q tgt lv st σ) (kE : ¬ a < 0 → E = some z → G p l e R s m args below meth c D dA b0 n0 m0 nL nE mE Q (pc + 3) lv st σ) : G p l e R s m args below meth c D dA b0 n0 m0 nL nE mE Q pc lv ((2, a) :: st) σ := by
  unfold bN at hF
  split at hF
  · rename_i h
    have k := kT h hF
    refine ⟨k.1, fun h1 h2 H locs ls hP hS hl => ?_⟩
    show W p l e R s m args below meth c H locs (σ.1 - n0) (σ.2.1 - m0) Q (F0 m pc ls (pV 2 a :: st.map pVs))
    rw [pV_null h]
    exact lv_ifnullN hX.1 hX.2.1 hd ht (k.2 h1 h2 H locs ls hP hS hl)
  · rename_i h
    have k := kE h hF
    refine ⟨k.1, fun h1 h2 H locs ls hP hS hl => ?_⟩
    show W p l e R s m args below meth c H locs (σ.1 - n0) (σ.2.1 - m0) Q (F0 m pc ls (pV 2 a :: st.map pVs))
    rw [pV_ref (by omega)]
    exact lv_ifnull hX.1 hX.2.1 hd (k.2 h1 h2 H locs ls hP hS hl)
theorem g_ifnonnull (hX : Cx p R s m args meth c D dA b0 n0 m0 nL nE mE cc own fr lo) {off : Int} {tgt : Nat} (hd : decode cc pc = .ok (.ifnonnull off, 3)) (ht : (pc : Int) + off = (tgt : Int)) (hF : bN a T E = some z) (kT : a < 0 → T = some z → G p l e R s m args below meth c D dA b0 n0 m0 nL nE mE Q (pc + 3) lv st σ) (kE : ¬ a < 0 → E = some z → G p l e R s m args below meth c D dA b0 n0 m0 nL nE mE Q tgt lv st σ) : G p l e R s m args below meth c D dA b0 n0 m0 nL nE mE Q pc lv ((2, a) :: st) σ := by
  unfold bN at hF
  split at hF
  · rename_i h
    have k := kT h hF
    refine ⟨k.1, fun h1 h2 H locs ls hP hS hl => ?_⟩
    show W p l e R s m args below meth c H locs (σ.1 - n0) (σ.2.1 - m0) Q (F0 m pc ls (pV 2 a :: st.map pVs))
    rw [pV_null h]
    exact lv_ifnonnullN hX.1 hX.2.1 hd (k.2 h1 h2 H locs ls hP hS hl)
  · rename_i h
    have k := kE h hF
    refine ⟨k.1, fun h1 h2 H locs ls hP hS hl => ?_⟩
    show W p l e R s m args below meth c H locs (σ.1 - n0) (σ.2.1 - m0) Q (F0 m pc ls (pV 2 a :: st.map pVs))
    rw [pV_ref (by omega)]
    exact lv_ifnonnull hX.1 hX.2.1 hd ht (k.2 h1 h2 H locs ls hP hS hl)
theorem g_tsIn (hX : Cx p R s m args meth c D dA b0 n0 m0 nL nE mE cc own fr lo) {dflt lw hi : Int} {offs : Array Int} {len : Nat} {off : Int} {tgt : Nat} (v : Int) (hd : decode cc pc = .ok (.tableswitch dflt lw hi offs, len)) (hv : a = v) (hr : R3 v) (h1 : ¬ v < lw) (h2 : ¬ hi < v) (ho : offs[(v - lw).toNat]? = some off) (ht : (pc : Int) + off = (tgt : Int)) (k : G p l e R s m args below meth c D dA b0 n0 m0 nL nE mE Q tgt lv st σ) : G p l e R s m args below meth c D dA b0 n0 m0 nL nE mE Q pc lv ((0, a) :: st) σ := by
  subst hv
  exact ⟨k.1, fun q1 q2 H locs ls hP hS hl => lv_tableIn hX.1 hX.2.1 hd (by rw [iI_toInt hr]; exact h1) (by rw [iI_toInt hr]; exact h2) (by rw [iI_toInt hr]; exact ho) ht (k.2 q1 q2 H locs ls hP hS hl)⟩
theorem g_tsOut (hX : Cx p R s m args meth c D dA b0 n0 m0 nL nE mE cc own fr lo) {dflt lw hi : Int} {offs : Array Int} {len : Nat} {tgt : Nat} (hd : decode cc pc = .ok (.tableswitch dflt lw hi offs, len)) (hr : R3 a) (h1 : a < lw ∨ hi < a) (ht : (pc : Int) + dflt = (tgt : Int)) (k : G p l e R s m args below meth c D dA b0 n0 m0 nL nE mE Q tgt lv st σ) : G p l e R s m args below meth c D dA b0 n0 m0 nL nE mE Q pc lv ((0, a) :: st) σ :=
  ⟨k.1, fun q1 q2 H locs ls hP hS hl => lv_tableOut hX.1 hX.2.1 hd (by rw [iI_toInt hr]; exact h1) ht (k.2 q1 q2 H locs ls hP hS hl)⟩
/-- the words of Math.min, Math.max, called from a class -/
def Mw (own : String) (idx : Nat) (y : MethodName) (code : ByteArray) : Prop := Cond.methodLink own idx y ∈ tb ∧ Cond.static y ∈ tb ∧ Cond.initialized "java/lang/Math" ∈ tb ∧ Cond.code y code 2 (some .int) ∈ tb
theorem g_max (hX : Cx p R s m args meth c D dA b0 n0 m0 nL nE mE cc own fr lo) {idx : Nat} (hw : Mw own idx Lib.Math.max.name Lib.Math.max.code) (hfr : 1 ≤ fr) (hlo : ws8 st + 13 ≤ lo) (hd : decode cc pc = .ok (.invokestatic idx, 3)) (hF : g33 a b T = some z) (k : T = some z → G p l e R s m args below meth c D dA b0 n0 m0 nL nE mE Q (pc + 3) lv ((0, max a b) :: st) σ) : G p l e R s m args below meth c D dA b0 n0 m0 nL nE mE Q pc lv ((0, b) :: (0, a) :: st) σ := by
  unfold g33 at hF
  split at hF
  · rename_i h
    have k := k hF
    obtain ⟨hx, hb, hml, hown, hts, ⟨hK, hAO⟩, hbs, hroom, hfl⟩ := hX
    refine ⟨k.1, fun h1 h2 H locs ls hP hS hl => va_mmax hx hb (by rw [hml]; exact hl.1.symm) hown (hts _ hw.1) (hts _ hw.2.1) (hts _ hw.2.2.1) (hts _ hw.2.2.2) (Nat.le_trans hfr hfl.1) (by rw [ws8_eq]; exact Nat.le_trans hlo hfl.2) ?_ ?_ hd ?_⟩
    · have := k.1.1; omega
    · have := k.1.2; omega
    · rw [iI_max h.1 h.2]
      exact k.2 h1 h2 H locs ls hP hS hl
  · cases hF
theorem g_min (hX : Cx p R s m args meth c D dA b0 n0 m0 nL nE mE cc own fr lo) {idx : Nat} (hw : Mw own idx Lib.Math.min.name Lib.Math.min.code) (hfr : 1 ≤ fr) (hlo : ws8 st + 13 ≤ lo) (hd : decode cc pc = .ok (.invokestatic idx, 3)) (hF : g33 a b T = some z) (k : T = some z → G p l e R s m args below meth c D dA b0 n0 m0 nL nE mE Q (pc + 3) lv ((0, min a b) :: st) σ) : G p l e R s m args below meth c D dA b0 n0 m0 nL nE mE Q pc lv ((0, b) :: (0, a) :: st) σ := by
  unfold g33 at hF
  split at hF
  · rename_i h
    have k := k hF
    obtain ⟨hx, hb, hml, hown, hts, ⟨hK, hAO⟩, hbs, hroom, hfl⟩ := hX
    refine ⟨k.1, fun h1 h2 H locs ls hP hS hl => va_mmin hx hb (by rw [hml]; exact hl.1.symm) hown (hts _ hw.1) (hts _ hw.2.1) (hts _ hw.2.2.1) (hts _ hw.2.2.2) (Nat.le_trans hfr hfl.1) (by rw [ws8_eq]; exact Nat.le_trans hlo hfl.2) ?_ ?_ hd ?_⟩
    · have := k.1.1; omega
    · have := k.1.2; omega
    · rw [iI_min h.1 h.2]
      exact k.2 h1 h2 H locs ls hP hS hl
  · cases hF
theorem g_objInit (hX : Cx p R s m args meth c D dA b0 n0 m0 nL nE mE cc own fr lo) {idx : Nat} (hw : Cond.methodLink own idx objectInit ∈ tb ∧ Cond.instanceMethod objectInit ∈ tb ∧ Cond.code objectInit ⟨#[0xb1]⟩ 1 none ∈ tb) (h0 : 0 ≤ a) (hfr : 1 ≤ fr) (hlo : ws8 st + 12 ≤ lo) (hd : decode cc pc = .ok (.invokespecial idx, 3)) (k : G p l e R s m args below meth c D dA b0 n0 m0 nL nE mE Q (pc + 3) lv st σ) : G p l e R s m args below meth c D dA b0 n0 m0 nL nE mE Q pc lv ((2, a) :: st) σ := by
  obtain ⟨hx, hb, hml, hown, hts, ⟨hK, hAO⟩, hbs, hroom, hfl⟩ := hX
  refine ⟨k.1, fun h1 h2 H locs ls hP hS hl => ?_⟩
  show W p l e R s m args below meth c H locs (σ.1 - n0) (σ.2.1 - m0) Q (F0 m pc ls (pV 2 a :: st.map pVs))
  rw [pV_ref h0]
  exact W.objInit hx hb hown (hts _ hw.1) (hts _ hw.2.1) (hts _ hw.2.2) rfl (by rw [hml]; exact hl.1) rfl hd (Nat.le_trans hfr hfl.1) (by show 2 * 0 + ((st.map pVs).map fun v => v.category).sum + 12 ≤ _; rw [ws8_eq]; omega) (k.2 h1 h2 H locs ls hP hS hl)
/-- a class's facts -/
def CFt (ci : Nat) (C : String) (T : u_T) (N : Nat) (ty : Nat → FieldType) : Prop := vwCl[ci]? = some (C, T, N) ∧ (∀ w ∈ u_ws C T N, w ∈ tb) ∧ (∀ k, k < N → parseFieldDescriptor (T k).2.2.1 = some (ty k)) ∧ (∀ a, a < N → ∀ b, b < N → a ≠ b → (T a).2.1 ≠ (T b).2.1) ∧ tyC ci = ty ∧ nF ci = N ∧ ci < 9
/-- a field's words -/
def FL (own : String) (idx ci k t : Nat) : Prop := ∃ (C : String) (T : u_T) (N : Nat) (ty : Nat → FieldType), CFt ci C T N ty ∧ k < N ∧ Cond.fieldLink own idx (T k).1 (T k).2.1 (T k).2.2.1 ∈ tb ∧ tagOf (ty k) = t
theorem g_get (hX : Cx p R s m args meth c D dA b0 n0 m0 nL nE mE cc own fr lo) {idx ci k t : Nat} {C K : Int} {f : Int → Option γ} (hw : FL own idx ci k t) (hC : C = ci + 1) (hK : K = k) (hd : decode cc pc = .ok (.getfield idx, 3)) (hF : (rd C σ a K).bind f = some z) (kk : ∀ v, f v = some z → G p l e R s m args below meth c D dA b0 n0 m0 nL nE mE Q (pc + 3) lv ((t, v) :: st) σ) : G p l e R s m args below meth c D dA b0 n0 m0 nL nE mE Q pc lv ((2, a) :: st) σ := by
  obtain ⟨v, hv, hF⟩ := bo_spec hF
  have kk := kk v hF
  unfold rd at hv
  split at hv
  · rename_i hkd
    cases hv
    obtain ⟨hx, hb, hml, hown, hts, ⟨hKK, hAO⟩, hbs, hroom, hfl⟩ := hX
    obtain ⟨Cn, Tn, N, ty, ⟨c1, c2, c3, c4, c5, c6, c7⟩, hkN, hlink, htag⟩ := hw
    refine ⟨kk.1, fun h1 h2 H locs ls hP hS hl => ?_⟩
    obtain ⟨a0, ab, hob⟩ := hP.obj hkd hC c7
    show W p l e R s m args below meth c H locs (σ.1 - n0) (σ.2.1 - m0) Q (F0 m pc ls (pV 2 a :: st.map pVs))
    rw [pV_ref a0]
    have hP1 : va_P D vwCl [(a.toNat, .inr (ci, (List.range N).map (fun k => pV (tagOf (ty k)) (gf σ a k))))] H := by
      intro i q hq
      have hi : i < 1 := (List.getElem?_eq_some_iff.mp hq).1
      rw [show i = 0 by omega] at hq
      cases hq
      refine ⟨_, c1, ?_⟩
      rw [c6] at hob
      refine hob.to (fun j hj => ?_)
      simp only [vp_V, c5]
      simp [hj]
    refine va_get hx hb hts c2 hown hKK hP1 0 rfl c1 k hkN (hts _ hlink) (fun _ h => h) (v := pV t (gf σ a K)) ?_ hd (kk.2 h1 h2 H locs ls hP hS hl)
    rw [hK, ← htag]
    simp [hkN]
  · cases hv
end GB
end
section
section GC
variable {p : Program} {l : Launch} {e : Env} {R : Room} {s : State} {m : MethodId} {args : Array Value} {below : List Frame} {meth : Method} {c : Code} {D : va_G} {dA : Nat → ClassId} {b0 n0 m0 nL nE mE : Nat} {Q : State → Prop}
variable {cc : ByteArray} {own : String} {fr lo : Nat} {pc : Nat} {lv : List (Nat × Nat × Int)} {st : List (Nat × Int)} {σ : Hp}
variable {γ : Type} {z : γ} {T E : Option γ} {a b : Int}
theorem wr_at (σ : Hp) (a k v : Int) : (wr σ a k v).2.2 a = (kd σ a, ln σ a, fun j => if j = k then v else gf σ a j) := if_pos rfl
/-- a field written: the picture behind it -/
theorem Pw.field {H H1 : Heap} {ci k : Nat} {C K v : Int} {w : Value} (hP : Pw D dA b0 σ H) (hkd : kd σ a = C) (hC : C = ci + 1) (hK : K = k) (h9 : ci < 9) (hw : pV (tagOf (tyC ci k)) v = w) (hz : H1.size = H.size) (ho : ∀ q, q ≠ a.toNat → H1[q]? = H[q]?) (hc : t_OB a.toNat (D.1 ci) (nF ci) (D.2 ci) H1 (updV (fun j => pV (tagOf (tyC ci j)) (gf σ a j)) k w)) : Pw D dA b0 (wr σ a K v) H1 := by
  refine hP.wrote (by rw [hkd]; omega) hz ho ?_
  rw [wr_at, hkd]
  unfold cellAt
  show if 11 ≤ C then _ else _
  rw [if_neg (by omega)]
  show t_OB a.toNat (D.1 (C.toNat - 1)) (nF (C.toNat - 1)) (D.2 (C.toNat - 1)) H1 (fun j => pV (tagOf (tyC (C.toNat - 1) j)) (if (j : Int) = K then v else gf σ a j))
  rw [show C.toNat - 1 = ci by omega]
  refine hc.to (fun j hj => ?_)
  unfold updV
  by_cases h : j = k
  · subst h
    rw [if_pos rfl, if_pos (by rw [hK]), hw]
  · rw [if_neg h, if_neg (by rw [hK]; omega)]
def FP (own : String) (idx ci k t : Nat) : Prop := ∃ (C : String) (T : u_T) (N : Nat) (ty : Nat → FieldType), CFt ci C T N ty ∧ k < N ∧ Cond.fieldLink own idx (T k).1 (T k).2.1 (T k).2.2.1 ∈ tb ∧ (T k).2.2.2 = false ∧ plainT (ty k) = true ∧ tagOf (ty k) = t
def FZ (own : String) (idx ci k : Nat) : Prop := ∃ (C : String) (T : u_T) (N : Nat) (ty : Nat → FieldType), CFt ci C T N ty ∧ k < N ∧ Cond.fieldLink own idx (T k).1 (T k).2.1 (T k).2.2.1 ∈ tb ∧ (T k).2.2.2 = false ∧ ty k = .boolean
def FF (own : String) (idx ci k t : Nat) : Prop := ∃ (C : String) (T : u_T) (N : Nat) (ty : Nat → FieldType), CFt ci C T N ty ∧ k < N ∧ Cond.fieldLink own idx (T k).1 (T k).2.1 (T k).2.2.1 ∈ tb ∧ (T k).2.2.2 = true ∧ (T k).1 = own ∧ plainT (ty k) = true ∧ tagOf (ty k) = t
/-- a field of a nonfinal kind written, at any value that fits -/
theorem W_put (hX : Cx p R s m args meth c D dA b0 n0 m0 nL nE mE cc own fr lo) {idx ci k : Nat} {C K v : Int} {Cn : String} {Tn : u_T} {N : Nat} {ty : Nat → FieldType} (hcf : CFt ci Cn Tn N ty) (hkN : k < N) (hlink : Cond.fieldLink own idx (Tn k).1 (Tn k).2.1 (Tn k).2.2.1 ∈ tb) (hfin : (Tn k).2.2.2 = false ∨ ((Tn k).2.2.2 = true ∧ (Tn k).1 = own ∧ meth.name = "<init>")) (hn : narrow (ty k) (pV (tagOf (ty k)) v) = pV (tagOf (ty k)) v) (hfit : fits (ty k) (pV (tagOf (ty k)) v) = true) (hC : C = ci + 1) (hK : K = k) (hd : decode cc pc = .ok (.putfield idx, 3)) (hkd : kd σ a = C)
    (kk : G p l e R s m args below meth c D dA b0 n0 m0 nL nE mE Q (pc + 3) lv st (wr σ a K v)) : G p l e R s m args below meth c D dA b0 n0 m0 nL nE mE Q pc lv ((tagOf (ty k), v) :: (2, a) :: st) σ := by
  obtain ⟨hx, hb, hml, hown, hts, ⟨hKK, hAO⟩, hbs, hroom, hfl⟩ := hX
  obtain ⟨c1, c2, c3, c4, c5, c6, c7⟩ := hcf
  refine ⟨kk.1, fun h1 h2 H locs ls hP hS hl => ?_⟩
  obtain ⟨a0, ab, hob⟩ := hP.obj hkd hC c7
  show W p l e R s m args below meth c H locs (σ.1 - n0) (σ.2.1 - m0) Q (F0 m pc ls (pV (tagOf (ty k)) v :: pV 2 a :: st.map pVs))
  rw [pV_ref a0]
  have hap := va_apart (own := own) hts c2 ty c3 c4 hKK c1
  obtain ⟨cell, q1, q2, q3, q4⟩ := id hob
  rw [c6] at q4
  obtain ⟨hS1, hfc, kC, hkC, hkind⟩ := hKK.1 ci _ c1
  obtain ⟨cf, kf, fi, f, hi, hsl⟩ := hS1 k hkN
  have hlay := hts _ (c2 _ (u_in_lay hkN))
  unfold u_lay at hlay
  have hst := (u_facts hfc hkC (u_lays hts c2 hkN) hi).1
  have key : ∀ H' : Heap, H'[a.toNat]? = some (cell.setSlot f.slot (pV (tagOf (ty k)) v)) → H'.size = H.size → (∀ q, q ≠ a.toNat → H'[q]? = H[q]?) → W p l e R s m args below meth c H' (locs ++ [⟨a.toNat, f.slot⟩]) (σ.1 - n0) (σ.2.1 - m0) Q (F0 m (pc + 3) ls (st.map pVs)) := by
    intro H' e1 e2 e3
    rw [hsl] at e1
    refine kk.2 h1 h2 H' _ ls (Pw.field hP hkd hC hK c7 (by rw [c5]) e2 e3 ⟨_, e1, q2, q3, ?_⟩) (hS.put e2 e3 ab) hl
    rw [c6]
    exact t_set q4 hap hkN _
  rcases hfin with hfin | ⟨hfin, hdecl, hin2⟩
  · rw [if_neg (by rw [hfin]; decide)] at hlay
    have h6 := u_store hfc hkC hkind hlay hi (c3 k hkN) hn hfit
    exact W.putK hx hb (f := f) ⟨hown, hts _ hlink, ⟨_, _, _, hi⟩, hst⟩ (by rw [q2]; exact h6) q1 q3 (by rw [hsl]; exact k2_hasslot (q4 k hkN)) rfl rfl hd key
  · rw [if_pos hfin] at hlay
    have hcf : m.cls = cf := by
      obtain ⟨_, _, c', _, _, _, -, -, hf', -, -, -, hown2, -⟩ := Cond.laysFinal_spec hlay
      have e1 : c' = cf := by have := hi.symm.trans hf'; simp at this; exact this.1.symm
      rw [hdecl] at hown2
      rw [← e1]; exact Option.some.inj (hown.symm.trans hown2)
    have h6 := u_fits hfc hkC hkind (Or.inr hlay) hi (c3 k hkN) hn hfit
    exact W.putFinK hx hb hown (hts _ hlink) hi hst hcf hin2 (by rw [q2]; exact h6) q1 q3 (by rw [hsl]; exact k2_hasslot (q4 k hkN)) rfl rfl hd key
theorem pw_spec {C K v : Int} {f : Hp → Option γ} (hF : (pw C σ a K v).bind f = some z) : kd σ a = C ∧ f (wr σ a K v) = some z := by
  obtain ⟨σ1, h, hF⟩ := bo_spec hF
  unfold pw at h
  split at h
  · cases h; exact ⟨by assumption, hF⟩
  · cases h
theorem g_put (hX : Cx p R s m args meth c D dA b0 n0 m0 nL nE mE cc own fr lo) {idx ci k t : Nat} {C K v : Int} {f : Hp → Option γ} (hw : FP own idx ci k t) (hC : C = ci + 1) (hK : K = k) (hd : decode cc pc = .ok (.putfield idx, 3)) (hF : (pw C σ a K v).bind f = some z) (kk : f (wr σ a K v) = some z → G p l e R s m args below meth c D dA b0 n0 m0 nL nE mE Q (pc + 3) lv st (wr σ a K v)) : G p l e R s m args below meth c D dA b0 n0 m0 nL nE mE Q pc lv ((t, v) :: (2, a) :: st) σ := by
  obtain ⟨hkd, hF⟩ := pw_spec hF
  obtain ⟨Cn, Tn, N, ty, hcf, hkN, hlink, hfin, hpl, rfl⟩ := hw
  exact W_put hX hcf hkN hlink (Or.inl hfin) (pV_plain hpl v).1 (pV_plain hpl v).2 hC hK hd hkd (kk hF)
theorem g_putF (hX : Cx p R s m args meth c D dA b0 n0 m0 nL nE mE cc own fr lo) {idx ci k t : Nat} {C K v : Int} {f : Hp → Option γ} (hw : FF own idx ci k t) (hnm : meth.name = "<init>") (hC : C = ci + 1) (hK : K = k) (hd : decode cc pc = .ok (.putfield idx, 3)) (hF : (pw C σ a K v).bind f = some z) (kk : f (wr σ a K v) = some z → G p l e R s m args below meth c D dA b0 n0 m0 nL nE mE Q (pc + 3) lv st (wr σ a K v)) : G p l e R s m args below meth c D dA b0 n0 m0 nL nE mE Q pc lv ((t, v) :: (2, a) :: st) σ := by
  obtain ⟨hkd, hF⟩ := pw_spec hF
  obtain ⟨Cn, Tn, N, ty, hcf, hkN, hlink, hfin, hdecl, hpl, rfl⟩ := hw
  exact W_put hX hcf hkN hlink (Or.inr ⟨hfin, hdecl, hnm⟩) (pV_plain hpl v).1 (pV_plain hpl v).2 hC hK hd hkd (kk hF)
theorem g_putZ (hX : Cx p R s m args meth c D dA b0 n0 m0 nL nE mE cc own fr lo) {idx ci k : Nat} {C K v : Int} {f : Hp → Option γ} (hw : FZ own idx ci k) (hC : C = ci + 1) (hK : K = k) (hd : decode cc pc = .ok (.putfield idx, 3)) (hF : (pz C σ a K v).bind f = some z) (kk : f (wr σ a K v) = some z → G p l e R s m args below meth c D dA b0 n0 m0 nL nE mE Q (pc + 3) lv st (wr σ a K v)) : G p l e R s m args below meth c D dA b0 n0 m0 nL nE mE Q pc lv ((0, v) :: (2, a) :: st) σ := by
  obtain ⟨σ1, h, hF⟩ := bo_spec hF
  unfold pz at h
  split at h
  · rename_i h0
    cases h
    obtain ⟨Cn, Tn, N, ty, hcf, hkN, hlink, hfin, hpl⟩ := hw
    have := W_put (v := v) hX hcf hkN hlink (Or.inl hfin) (by rw [hpl]; exact (pV_bool h0.2).1) (by rw [hpl]; exact (pV_bool h0.2).2) hC hK hd h0.1 (kk hF)
    rw [hpl] at this
    exact this
  · cases h
/-! arrays -/
theorem g_in {i n : Int} (h0 : 0 ≤ i) (hn : i < n) (h3 : i < 2147483648) (cA : ClassId) (f : Nat → Value) : ¬ (iI i < 0 ∨ (arrV cA n.toNat f).slots.size ≤ (iI i).toNatClampNeg) := by
  have r : R3 i := ⟨by omega, h3⟩
  rw [arrV_size, iI_clamp r]
  intro h
  rcases h with h | h
  · have := (iI_lt (b := 0) r (by decide)).mp h
    omega
  · omega
theorem ar_spec {C i v : Int} (h : ar C σ a i = some v) : kd σ a = C ∧ 0 ≤ i ∧ i < ln σ a ∧ i < 2147483648 ∧ v = gf σ a i := by
  unfold ar at h
  split at h
  · rename_i q
    cases h
    exact ⟨q.1, q.2.1, q.2.2.1, q.2.2.2, rfl⟩
  · cases h
theorem arr_rd {i n : Int} (h0 : 0 ≤ i) (hn : i < n) (h3 : i < 2147483648) (cA : ClassId) (t : Nat) (f : Int → Int) : (arrV cA n.toNat (fun j => pV t (f j))).slots[(iI i).toNatClampNeg]? = some (pV t (f i)) := by
  rw [iI_clamp ⟨by omega, h3⟩, arrV_read _ _ (by omega), Int.toNat_of_nonneg h0]
theorem g_iald (hX : Cx p R s m args meth c D dA b0 n0 m0 nL nE mE cc own fr lo) {i : Int} {f : Int → Option γ} (hd : decode cc pc = .ok (.iaload, 1)) (hF : (ar 11 σ a i).bind f = some z) (kk : ∀ v, f v = some z → G p l e R s m args below meth c D dA b0 n0 m0 nL nE mE Q (pc + 1) lv ((0, v) :: st) σ) : G p l e R s m args below meth c D dA b0 n0 m0 nL nE mE Q pc lv ((0, i) :: (2, a) :: st) σ := by
  obtain ⟨v, hv, hF⟩ := bo_spec hF
  have kk := kk v hF
  obtain ⟨hkd, i0, i1, i2, rfl⟩ := ar_spec hv
  obtain ⟨hx, hb, hml, hown, hts, ⟨hKK, hAO⟩, hbs, hroom, hfl⟩ := hX
  refine ⟨kk.1, fun h1 h2 H locs ls hP hS hl => ?_⟩
  obtain ⟨a0, ab, hob⟩ := hP.arr hkd (by decide)
  show W p l e R s m args below meth c H locs (σ.1 - n0) (σ.2.1 - m0) Q (F0 m pc ls (.int (iI i) :: pV 2 a :: st.map pVs))
  rw [pV_ref a0]
  exact W.iald (v := pV 0 (gf σ a i)) hx hb hob ((hKK.2 0 _ rfl).1 _ _) (fun q => by cases q) (g_in i0 i1 i2 _ _) (arr_rd i0 i1 i2 _ _ _) rfl rfl hd (kk.2 h1 h2 H locs ls hP hS hl)
theorem g_zald (hX : Cx p R s m args meth c D dA b0 n0 m0 nL nE mE cc own fr lo) {i : Int} {f : Int → Option γ} (hd : decode cc pc = .ok (.baload, 1)) (hF : (ar 13 σ a i).bind f = some z) (kk : ∀ v, f v = some z → G p l e R s m args below meth c D dA b0 n0 m0 nL nE mE Q (pc + 1) lv ((0, v) :: st) σ) : G p l e R s m args below meth c D dA b0 n0 m0 nL nE mE Q pc lv ((0, i) :: (2, a) :: st) σ := by
  obtain ⟨v, hv, hF⟩ := bo_spec hF
  have kk := kk v hF
  obtain ⟨hkd, i0, i1, i2, rfl⟩ := ar_spec hv
  obtain ⟨hx, hb, hml, hown, hts, ⟨hKK, hAO⟩, hbs, hroom, hfl⟩ := hX
  refine ⟨kk.1, fun h1 h2 H locs ls hP hS hl => ?_⟩
  obtain ⟨a0, ab, hob⟩ := hP.arr hkd (by decide)
  show W p l e R s m args below meth c H locs (σ.1 - n0) (σ.2.1 - m0) Q (F0 m pc ls (.int (iI i) :: pV 2 a :: st.map pVs))
  rw [pV_ref a0]
  exact W.zald (v := pV 0 (gf σ a i)) hx hb hob ((hKK.2 2 _ rfl).1 _ _) (fun q => by cases q) (g_in i0 i1 i2 _ _) (arr_rd i0 i1 i2 _ _ _) rfl rfl hd (kk.2 h1 h2 H locs ls hP hS hl)
theorem g_lald (hX : Cx p R s m args meth c D dA b0 n0 m0 nL nE mE cc own fr lo) {i : Int} {f : Int → Option γ} (hd : decode cc pc = .ok (.laload, 1)) (hF : (ar 12 σ a i).bind f = some z) (kk : ∀ v, f v = some z → G p l e R s m args below meth c D dA b0 n0 m0 nL nE mE Q (pc + 1) lv ((1, v) :: st) σ) : G p l e R s m args below meth c D dA b0 n0 m0 nL nE mE Q pc lv ((0, i) :: (2, a) :: st) σ := by
  obtain ⟨v, hv, hF⟩ := bo_spec hF
  have kk := kk v hF
  obtain ⟨hkd, i0, i1, i2, rfl⟩ := ar_spec hv
  obtain ⟨hx, hb, hml, hown, hts, ⟨hKK, hAO⟩, hbs, hroom, hfl⟩ := hX
  refine ⟨kk.1, fun h1 h2 H locs ls hP hS hl => ?_⟩
  obtain ⟨a0, ab, hob⟩ := hP.arr hkd (by decide)
  show W p l e R s m args below meth c H locs (σ.1 - n0) (σ.2.1 - m0) Q (F0 m pc ls (.int (iI i) :: pV 2 a :: st.map pVs))
  rw [pV_ref a0]
  exact W.lald (v := pV 1 (gf σ a i)) hx hb hob ((hKK.2 1 _ rfl).1 _ _) (fun q => by cases q) (g_in i0 i1 i2 _ _) (arr_rd i0 i1 i2 _ _ _) rfl rfl hd (kk.2 h1 h2 H locs ls hP hS hl)
theorem g_aald (hX : Cx p R s m args meth c D dA b0 n0 m0 nL nE mE cc own fr lo) {i C : Int} {f : Int → Option γ} (hC : C = 14 ∨ C = 15) (hd : decode cc pc = .ok (.aaload, 1)) (hF : (ar C σ a i).bind f = some z) (kk : ∀ v, f v = some z → G p l e R s m args below meth c D dA b0 n0 m0 nL nE mE Q (pc + 1) lv ((2, v) :: st) σ) : G p l e R s m args below meth c D dA b0 n0 m0 nL nE mE Q pc lv ((0, i) :: (2, a) :: st) σ := by
  obtain ⟨v, hv, hF⟩ := bo_spec hF
  have kk := kk v hF
  obtain ⟨hkd, i0, i1, i2, rfl⟩ := ar_spec hv
  obtain ⟨hx, hb, hml, hown, hts, ⟨hKK, hAO⟩, hbs, hroom, hfl⟩ := hX
  refine ⟨kk.1, fun h1 h2 H locs ls hP hS hl => ?_⟩
  obtain ⟨a0, ab, hob⟩ := hP.arr hkd (by omega)
  show W p l e R s m args below meth c H locs (σ.1 - n0) (σ.2.1 - m0) Q (F0 m pc ls (.int (iI i) :: pV 2 a :: st.map pVs))
  rw [pV_ref a0]
  rcases hC with rfl | rfl
  · exact W.aald (v := pV 2 (gf σ a i)) (ty := .object "LakeChain$Lake") hx hb hob ((hKK.2 3 _ rfl).1 _ _) rfl (fun q => by cases q) (g_in i0 i1 i2 _ _) (arr_rd i0 i1 i2 _ _ _) rfl rfl hd (kk.2 h1 h2 H locs ls hP hS hl)
  · exact W.aald (v := pV 2 (gf σ a i)) (ty := .object "LakeChain$Node") hx hb hob ((hKK.2 4 _ rfl).1 _ _) rfl (fun q => by cases q) (g_in i0 i1 i2 _ _) (arr_rd i0 i1 i2 _ _ _) rfl rfl hd (kk.2 h1 h2 H locs ls hP hS hl)
theorem ty_of {C : Int} (hC : C = 11 ∨ C = 12 ∨ C = 13 ∨ C = 14 ∨ C = 15) (hK : va_K D vwCl (tysA dA) s) : ∃ ty, ArrOfT s (dA (C.toNat - 11)) ty := by
  rcases hC with rfl | rfl | rfl | rfl | rfl
  · exact ⟨_, (hK.2 0 _ rfl).1⟩
  · exact ⟨_, (hK.2 1 _ rfl).1⟩
  · exact ⟨_, (hK.2 2 _ rfl).1⟩
  · exact ⟨_, (hK.2 3 _ rfl).1⟩
  · exact ⟨_, (hK.2 4 _ rfl).1⟩
theorem g_alen (hX : Cx p R s m args meth c D dA b0 n0 m0 nL nE mE cc own fr lo) {C : Int} {f : Int → Option γ} (hC : C = 11 ∨ C = 12 ∨ C = 13 ∨ C = 14 ∨ C = 15) (hd : decode cc pc = .ok (.arraylength, 1)) (hF : (al C σ a).bind f = some z) (kk : ∀ v, f v = some z → G p l e R s m args below meth c D dA b0 n0 m0 nL nE mE Q (pc + 1) lv ((0, v) :: st) σ) : G p l e R s m args below meth c D dA b0 n0 m0 nL nE mE Q pc lv ((2, a) :: st) σ := by
  obtain ⟨v, hv, hF⟩ := bo_spec hF
  have kk := kk v hF
  unfold al at hv
  split at hv
  · rename_i h0
    cases hv
    obtain ⟨hx, hb, hml, hown, hts, ⟨hKK, hAO⟩, hbs, hroom, hfl⟩ := hX
    refine ⟨kk.1, fun h1 h2 H locs ls hP hS hl => ?_⟩
    obtain ⟨a0, ab, hob⟩ := hP.arr h0.1 (by omega)
    show W p l e R s m args below meth c H locs (σ.1 - n0) (σ.2.1 - m0) Q (F0 m pc ls (pV 2 a :: st.map pVs))
    rw [pV_ref a0]
    obtain ⟨ty, hty⟩ := ty_of hC hKK
    refine W.alen (n := iI (ln σ a)) hx hb hob (hty _ _) ?_ rfl rfl hd (kk.2 h1 h2 H locs ls hP hS hl)
    rw [arrV_size]
    show Int32.ofNat (ln σ a).toNat = Int32.ofInt (ln σ a)
    rw [← Int32.ofInt_eq_ofNat, Int.toNat_of_nonneg h0.2]
  · cases hv
/-- an element written: the picture behind it -/
theorem Pw.elem {H H1 : Heap} {C i v : Int} {w : Value} {j : Nat} (hP : Pw D dA b0 σ H) (hkd : kd σ a = C) (hC : 11 ≤ C) (i0 : 0 ≤ i) (i2 : i < 2147483648) (hj : j = (iI i).toNatClampNeg) (hw : pV (tagA C) v = w) (hz : H1.size = H.size) (ho : ∀ q, q ≠ a.toNat → H1[q]? = H[q]?) (hc : H1[a.toNat]? = some ((arrV (dA (C.toNat - 11)) (ln σ a).toNat (fun j => pV (tagA C) (gf σ a j))).setSlot j w)) : Pw D dA b0 (wr σ a i v) H1 := by
  refine hP.wrote (by rw [hkd]; omega) hz ho ?_
  rw [wr_at, hkd]
  unfold cellAt
  show if 11 ≤ C then _ else _
  rw [if_pos hC, hc, arrV_store]
  show some (arrV _ _ _) = some (arrV (dA (C.toNat - 11)) (ln σ a).toNat (fun q => pV (tagA C) (if (q : Int) = i then v else gf σ a q)))
  congr 2
  funext q
  rw [hj, iI_clamp ⟨by omega, i2⟩]
  unfold updV
  by_cases h : q = i.toNat
  · rw [if_pos h, if_pos (by omega), hw]
  · rw [if_neg h, if_neg (by omega)]
theorem aw_spec {C i v : Int} {f : Hp → Option γ} (hF : (aw C σ a i v).bind f = some z) : kd σ a = C ∧ 0 ≤ i ∧ i < ln σ a ∧ i < 2147483648 ∧ f (wr σ a i v) = some z := by
  obtain ⟨σ1, h, hF⟩ := bo_spec hF
  unfold aw at h
  split at h
  · rename_i q
    cases h
    exact ⟨q.1, q.2.1, q.2.2.1, q.2.2.2, hF⟩
  · cases h
theorem g_iast (hX : Cx p R s m args meth c D dA b0 n0 m0 nL nE mE cc own fr lo) {i v : Int} {f : Hp → Option γ} (hd : decode cc pc = .ok (.iastore, 1)) (hF : (aw 11 σ a i v).bind f = some z) (kk : f (wr σ a i v) = some z → G p l e R s m args below meth c D dA b0 n0 m0 nL nE mE Q (pc + 1) lv st (wr σ a i v)) : G p l e R s m args below meth c D dA b0 n0 m0 nL nE mE Q pc lv ((0, v) :: (0, i) :: (2, a) :: st) σ := by
  obtain ⟨hkd, i0, i1, i2, hF⟩ := aw_spec hF
  have kk := kk hF
  obtain ⟨hx, hb, hml, hown, hts, ⟨hKK, hAO⟩, hbs, hroom, hfl⟩ := hX
  refine ⟨kk.1, fun h1 h2 H locs ls hP hS hl => ?_⟩
  obtain ⟨a0, ab, hob⟩ := hP.arr hkd (by decide)
  show W p l e R s m args below meth c H locs (σ.1 - n0) (σ.2.1 - m0) Q (F0 m pc ls (.int (iI v) :: .int (iI i) :: pV 2 a :: st.map pVs))
  rw [pV_ref a0]
  refine W.iast hx hb hob ((hKK.2 0 _ rfl).1 _ _) (fun q => by cases q) (g_in i0 i1 i2 _ _) rfl rfl hd fun H1 e1 e2 e3 => ?_
  exact kk.2 h1 h2 H1 _ ls (Pw.elem hP hkd (by decide) i0 i2 rfl rfl e2 e3 e1) (hS.put e2 e3 ab) hl
theorem g_last (hX : Cx p R s m args meth c D dA b0 n0 m0 nL nE mE cc own fr lo) {i v : Int} {f : Hp → Option γ} (hd : decode cc pc = .ok (.lastore, 1)) (hF : (aw 12 σ a i v).bind f = some z) (kk : f (wr σ a i v) = some z → G p l e R s m args below meth c D dA b0 n0 m0 nL nE mE Q (pc + 1) lv st (wr σ a i v)) : G p l e R s m args below meth c D dA b0 n0 m0 nL nE mE Q pc lv ((1, v) :: (0, i) :: (2, a) :: st) σ := by
  obtain ⟨hkd, i0, i1, i2, hF⟩ := aw_spec hF
  have kk := kk hF
  obtain ⟨hx, hb, hml, hown, hts, ⟨hKK, hAO⟩, hbs, hroom, hfl⟩ := hX
  refine ⟨kk.1, fun h1 h2 H locs ls hP hS hl => ?_⟩
  obtain ⟨a0, ab, hob⟩ := hP.arr hkd (by decide)
  show W p l e R s m args below meth c H locs (σ.1 - n0) (σ.2.1 - m0) Q (F0 m pc ls (.long (lI v) :: .int (iI i) :: pV 2 a :: st.map pVs))
  rw [pV_ref a0]
  refine W.last hx hb hob ((hKK.2 1 _ rfl).1 _ _) (fun q => by cases q) (g_in i0 i1 i2 _ _) rfl rfl hd fun H1 e1 e2 e3 => ?_
  exact kk.2 h1 h2 H1 _ ls (Pw.elem hP hkd (by decide) i0 i2 rfl rfl e2 e3 e1) (hS.put e2 e3 ab) hl
theorem g_zast (hX : Cx p R s m args meth c D dA b0 n0 m0 nL nE mE cc own fr lo) {i v : Int} {f : Hp → Option γ} (hd : decode cc pc = .ok (.bastore, 1)) (hF : (az 13 σ a i v).bind f = some z) (kk : f (wr σ a i v) = some z → G p l e R s m args below meth c D dA b0 n0 m0 nL nE mE Q (pc + 1) lv st (wr σ a i v)) : G p l e R s m args below meth c D dA b0 n0 m0 nL nE mE Q pc lv ((0, v) :: (0, i) :: (2, a) :: st) σ := by
  obtain ⟨σ1, h, hF⟩ := bo_spec hF
  unfold az at h
  split at h
  · rename_i q
    obtain ⟨hkd, i0, i1, i2, hv⟩ := q
    cases h
    have kk := kk hF
    obtain ⟨hx, hb, hml, hown, hts, ⟨hKK, hAO⟩, hbs, hroom, hfl⟩ := hX
    refine ⟨kk.1, fun h1 h2 H locs ls hP hS hl => ?_⟩
    obtain ⟨a0, ab, hob⟩ := hP.arr hkd (by decide)
    show W p l e R s m args below meth c H locs (σ.1 - n0) (σ.2.1 - m0) Q (F0 m pc ls (.int (iI v) :: .int (iI i) :: pV 2 a :: st.map pVs))
    rw [pV_ref a0]
    refine W.zast hx hb hob ((hKK.2 2 _ rfl).1 _ _) (fun q => by cases q) (g_in i0 i1 i2 _ _) rfl rfl hd fun H1 e1 e2 e3 => ?_
    exact kk.2 h1 h2 H1 _ ls (Pw.elem hP hkd (by decide) i0 i2 rfl (pV_bool hv).1.symm e2 e3 e1) (hS.put e2 e3 ab) hl
  · cases h
theorem g_aast (hX : Cx p R s m args meth c D dA b0 n0 m0 nL nE mE cc own fr lo) {i v C cv : Int} {f : Hp → Option γ} (hC : (C = 14 ∧ cv = 1) ∨ (C = 15 ∧ cv = 2)) (hd : decode cc pc = .ok (.aastore, 1)) (hF : (aq C cv σ a i v).bind f = some z) (kk : f (wr σ a i v) = some z → G p l e R s m args below meth c D dA b0 n0 m0 nL nE mE Q (pc + 1) lv st (wr σ a i v)) : G p l e R s m args below meth c D dA b0 n0 m0 nL nE mE Q pc lv ((2, v) :: (0, i) :: (2, a) :: st) σ := by
  obtain ⟨σ1, h, hF⟩ := bo_spec hF
  unfold aq at h
  split at h
  · rename_i q
    obtain ⟨hkd, i0, i1, i2, hv⟩ := q
    cases h
    have kk := kk hF
    obtain ⟨hx, hb, hml, hown, hts, ⟨hKK, hAO⟩, hbs, hroom, hfl⟩ := hX
    refine ⟨kk.1, fun h1 h2 H locs ls hP hS hl => ?_⟩
    obtain ⟨a0, ab, hob⟩ := hP.arr hkd (by omega)
    have key : ∀ (ci t0 : Nat) (r : vw_C), cv = ci + 1 → ci < 9 → vwCl[ci]? = some r → (tysA dA)[t0]? = some (dA (C.toNat - 11), .object r.1) → tagA C = 2 → W p l e R s m args below meth c H locs (σ.1 - n0) (σ.2.1 - m0) Q (F0 m pc ls (pV 2 v :: .int (iI i) :: pV 2 a :: st.map pVs)) := by
      intro ci t0 r hcv h9 hc ht htag
      obtain ⟨v0, vb, cellV, g1, g2, g3, -⟩ := hP.obj hv hcv h9
      rw [pV_ref a0, pV_ref v0]
      have hcls := (hKK.1 ci r hc).2
      obtain ⟨kA, comp, k1, k2, k3, -⟩ := (hKK.2 t0 _ ht).2
      have hcomp : comp = D.1 ci := Option.some.inj (k3.symm.trans hcls.1)
      subst hcomp
      obtain ⟨kC, hkC, -⟩ := id hcls.2
      have hr3 : R3 i := ⟨by omega, i2⟩
      refine W.aast hx hb hob (fun q h => by cases h) (fun h => by cases h) k1 k2 rfl hkC ⟨fun q => g_in i0 i1 i2 (dA 0) (fun _ => .null) (Or.inl q), by rw [arrV_size, iI_clamp hr3]; omega⟩ g1 (fun q h => by rw [g3] at h; cases h) (by rw [g2]; exact hkC) (by rw [g2]; exact va_assign hcls) rfl rfl hd fun H1 e1 e2 e3 => ?_
      exact kk.2 h1 h2 H1 _ ls (Pw.elem hP hkd (by omega) i0 i2 rfl (by rw [htag]; exact pV_ref v0) e2 e3 e1) (hS.put e2 e3 ab) hl
    rcases hC with ⟨rfl, rfl⟩ | ⟨rfl, rfl⟩
    · exact key 0 3 _ rfl (by decide) rfl rfl rfl
    · exact key 1 4 _ rfl (by decide) rfl rfl rfl
  · cases h
end GC
end
section
section GD
variable {p : Program} {l : Launch} {e : Env} {R : Room} {s : State} {m : MethodId} {args : Array Value} {below : List Frame} {meth : Method} {c : Code} {D : va_G} {dA : Nat → ClassId} {b0 n0 m0 nL nE mE : Nat} {Q : State → Prop}
variable {cc : ByteArray} {own : String} {fr lo : Nat} {pc : Nat} {lv : List (Nat × Nat × Int)} {st : List (Nat × Int)} {σ : Hp}
variable {γ : Type} {z : γ} {T E : Option γ} {a b : Int}
theorem va_S.grew {A : Nat → Prop} {H0 H H1 : Heap} {locs : List Loc} (hS : va_S A H0 H locs) (hz : H1.size = H.size + 1) (ho : ∀ q, q < H.size → H1[q]? = H[q]?) : va_S A H0 H1 locs :=
  ⟨Nat.le_trans hS.1 (by omega), fun x h1 h2 => (ho x (Nat.lt_of_lt_of_le h1 hS.1)).trans (hS.2.1 x h1 h2), hS.2.2⟩
/-- an array of ints, longs, booleans is made -/
theorem g_newa (hX : Cx p R s m args meth c D dA b0 n0 m0 nL nE mE cc own fr lo) {n C : Int} {t0 : Nat} {ty : FieldType} {atype : ArrayType} {f : Hp → Option γ} (hty : newarray.typeOf atype = ty) (hC : (C = 11 ∧ ty = .int) ∨ (C = 12 ∧ ty = .long) ∨ (C = 13 ∧ ty = .boolean)) (hw : Cond.arrayClass ty ∈ tb) (hd : decode cc pc = .ok (.newarray atype, 2)) (hF : (na C σ n 0).bind f = some z)
    (kk : f (nw σ C n n.toNat (fun _ => 0)) = some z → G p l e R s m args below meth c D dA b0 n0 m0 nL nE mE Q (pc + 2) lv ((2, (σ.1 : Int)) :: st) (nw σ C n n.toNat (fun _ => 0))) : G p l e R s m args below meth c D dA b0 n0 m0 nL nE mE Q pc lv ((0, n) :: st) σ := by
  obtain ⟨σ1, h, hF⟩ := bo_spec hF
  unfold na at h
  split at h
  · rename_i q
    cases h
    have kk := kk hF
    obtain ⟨hx, hb, hml, hown, hts, ⟨hKK, hAO⟩, hbs, hroom, hfl⟩ := hX
    have hk1 : σ.1 + 1 ≤ nE := kk.1.1
    have hk2 : σ.2.1 + n.toNat ≤ mE := kk.1.2
    refine ⟨⟨by omega, by omega⟩, fun h1 h2 H locs ls hP hS hl => ?_⟩
    have r3 : R3 n := ⟨by omega, by omega⟩
    have hcl := iI_clamp r3
    have hnn : ¬ iI n < 0 := fun h => by have := (iI_lt (b := 0) r3 (by decide)).mp h; omega
    subst hty
    refine va_newaK hx hb (hts _ hw) rfl hd rfl hnn hcl ?_ (by omega) (by omega) (h := σ.1) hP.1 fun H1 cA e1 z1 o1 hAr hNm => ?_
    · have hcb : componentBytes (newarray.typeOf atype) ≤ 8 := by
        cases atype <;> decide
      calc n.toNat * componentBytes (newarray.typeOf atype) ≤ n.toNat * 8 := Nat.mul_le_mul_left _ hcb
        _ ≤ 536870912 := by omega
    · have kk2 := kk.2 (by show n0 ≤ σ.1 + 1; omega) (by show m0 ≤ σ.2.1 + n.toNat; omega) H1 locs ls
      have e3 : (nw σ C n n.toNat (fun _ => 0)).1 - n0 = σ.1 - n0 + 1 := by show σ.1 + 1 - n0 = _; omega
      have e4 : (nw σ C n n.toNat (fun _ => 0)).2.1 - m0 = σ.2.1 - m0 + n.toNat := by show σ.2.1 + n.toNat - m0 = _; omega
      rw [e3, e4] at kk2
      have hsz : H.size = σ.1 := hP.1
      have hcell : cellAt D dA σ.1 (C, n, fun _ => 0) H1 := by
        unfold cellAt
        show if 11 ≤ C then _ else _
        rw [if_pos (by omega), e1]
        rcases hC with ⟨rfl, h⟩ | ⟨rfl, h⟩ | ⟨rfl, h⟩
        · rw [h] at hNm ⊢
          have : cA = dA 0 := Option.some.inj (hNm.symm.trans (hKK.2 0 _ rfl).2)
          rw [this]; rfl
        · rw [h] at hNm ⊢
          have : cA = dA 1 := Option.some.inj (hNm.symm.trans (hKK.2 1 _ rfl).2)
          rw [this]; rfl
        · rw [h] at hNm ⊢
          have : cA = dA 2 := Option.some.inj (hNm.symm.trans (hKK.2 2 _ rfl).2)
          rw [this]; rfl
      have kk3 := kk2 (hP.made (by rw [z1, hsz]) (fun q hq => o1 q (by omega)) hcell) (hS.grew (by rw [z1, hsz]) (fun q hq => o1 q (by omega))) hl
      have e5 : pVs (2, (σ.1 : Int)) = .ref σ.1 := by
        show pV 2 (σ.1 : Int) = _
        rw [pV_ref (Int.natCast_nonneg _), Int.toNat_natCast]
      rw [List.map_cons, e5] at kk3
      exact kk3
  · cases h
/-- an array of references is made -/
theorem g_anew (hX : Cx p R s m args meth c D dA b0 n0 m0 nL nE mE cc own fr lo) {n C : Int} {idx t0 : Nat} {K : String} {f : Hp → Option γ} (hC : (C = 14 ∧ K = "LakeChain$Lake") ∨ (C = 15 ∧ K = "LakeChain$Node")) (hw : Cond.classLink own idx K ∈ tb) (hd : decode cc pc = .ok (.anewarray idx, 3)) (hF : (na C σ n (-1)).bind f = some z)
    (kk : f (nw σ C n n.toNat (fun _ => -1)) = some z → G p l e R s m args below meth c D dA b0 n0 m0 nL nE mE Q (pc + 3) lv ((2, (σ.1 : Int)) :: st) (nw σ C n n.toNat (fun _ => -1))) : G p l e R s m args below meth c D dA b0 n0 m0 nL nE mE Q pc lv ((0, n) :: st) σ := by
  obtain ⟨σ1, h, hF⟩ := bo_spec hF
  unfold na at h
  split at h
  · rename_i q
    cases h
    have kk := kk hF
    obtain ⟨hx, hb, hml, hown, hts, ⟨hKK, hAO⟩, hbs, hroom, hfl⟩ := hX
    have hk1 : σ.1 + 1 ≤ nE := kk.1.1
    have hk2 : σ.2.1 + n.toNat ≤ mE := kk.1.2
    refine ⟨⟨by omega, by omega⟩, fun h1 h2 H locs ls hP hS hl => ?_⟩
    have r3 : R3 n := ⟨by omega, by omega⟩
    have hcl := iI_clamp r3
    have hnn : ¬ iI n < 0 := fun h => by have := (iI_lt (b := 0) r3 (by decide)).mp h; omega
    refine W.anew hx hb hown (hts _ hw) (by rcases hC with ⟨-, rfl⟩ | ⟨-, rfl⟩ <;> first | exact va_AO.use hAO.1 | exact va_AO.use hAO.2) rfl hd rfl hnn (by rw [hcl]; omega) (by omega) (by rw [hcl]; omega) fun cA kA comp f1 f2 f3 f4 => ?_
    rw [hcl]
    generalize hH1 : H.push ({ cls := cA, slots := Array.replicate n.toNat .null, vm := .none } : Cell) = H1
    have z1 : H1.size = H.size + 1 := by rw [← hH1, Array.size_push]
    have e1 : H1[H.size]? = some (arrV cA n.toNat (fun _ => .null)) := by rw [← hH1, Array.getElem?_push_size, ← arrV_new]
    have o1 : ∀ q : Nat, q < H.size → H1[q]? = H[q]? := fun q hq => by rw [← hH1, Array.getElem?_push, if_neg (Nat.ne_of_lt hq)]
    have kk2 := kk.2 (by show n0 ≤ σ.1 + 1; omega) (by show m0 ≤ σ.2.1 + n.toNat; omega) H1 locs ls
    have e3 : (nw σ C n n.toNat (fun _ => -1)).1 - n0 = σ.1 - n0 + 1 := by show σ.1 + 1 - n0 = _; omega
    have e4 : (nw σ C n n.toNat (fun _ => -1)).2.1 - m0 = σ.2.1 - m0 + n.toNat := by show σ.2.1 + n.toNat - m0 = _; omega
    rw [e3, e4] at kk2
    have hsz : H.size = σ.1 := hP.1
    have hcell : cellAt D dA σ.1 (C, n, fun _ => -1) H1 := by
      unfold cellAt
      show if 11 ≤ C then _ else _
      rw [if_pos (by omega), ← hsz, e1]
      rcases hC with ⟨rfl, h⟩ | ⟨rfl, h⟩
      · rw [h] at f1
        obtain ⟨-, -, -, -, -, h4⟩ := (hKK.2 3 _ rfl).2
        have : cA = dA 3 := Option.some.inj (f1.symm.trans h4)
        rw [this]; rfl
      · rw [h] at f1
        obtain ⟨-, -, -, -, -, h4⟩ := (hKK.2 4 _ rfl).2
        have : cA = dA 4 := Option.some.inj (f1.symm.trans h4)
        rw [this]; rfl
    have kk3 := kk2 (hP.made z1 o1 hcell) (hS.grew z1 o1) hl
    have e5 : pVs (2, (σ.1 : Int)) = .ref H.size := by
      show pV 2 (σ.1 : Int) = _
      rw [pV_ref (Int.natCast_nonneg _), Int.toNat_natCast, hsz]
    rw [List.map_cons, e5] at kk3
    exact kk3
  · cases h
/-- an object is made -/
def Nw (own : String) (idx ci : Nat) : Prop := ∃ (C : String) (T : u_T) (N : Nat) (ty : Nat → FieldType), CFt ci C T N ty ∧ Cond.classLink own idx C ∈ tb ∧ Cond.instantiable C N ∈ tb ∧ Cond.initialized C ∈ tb ∧ ∀ k, k < N → defaultValue (ty k) = pV (tagOf (ty k)) (d0 ci k)
theorem g_new (hX : Cx p R s m args meth c D dA b0 n0 m0 nL nE mE cc own fr lo) {idx ci : Nat} {C : Int} {N : Nat} (hw : Nw own idx ci) (hC : C = ci + 1) (hN : nF ci = N) (hd : decode cc pc = .ok (.new idx, 3))
    (kk : G p l e R s m args below meth c D dA b0 n0 m0 nL nE mE Q (pc + 3) lv ((2, (σ.1 : Int)) :: st) (nw σ C 0 N (d0 ci))) : G p l e R s m args below meth c D dA b0 n0 m0 nL nE mE Q pc lv st σ := by
  obtain ⟨hx, hb, hml, hown, hts, ⟨hKK, hAO⟩, hbs, hroom, hfl⟩ := hX
  obtain ⟨Cn, Tn, N', ty, ⟨c1, c2, c3, c4, c5, c6, c7⟩, hcl, hinst, hini, hdef⟩ := hw
  have hNN : N' = N := by rw [← c6, hN]
  subst hNN
  have hk1 : σ.1 + 1 ≤ nE := kk.1.1
  have hk2 : σ.2.1 + N' ≤ mE := kk.1.2
  refine ⟨⟨by omega, by omega⟩, fun h1 h2 H locs ls hP hS hl => ?_⟩
  have hKn := hKK.1 ci _ c1
  have hsz : H.size = σ.1 := hP.1
  refine W.newcK hx hb hown (hts _ hcl) (hts _ hinst) (hts _ hini) rfl hd (by omega) (by omega) hKn.2.1 (h := σ.1) hsz fun H1 kC hkC e1 z1 o1 => ?_
  have kk2 := kk.2 (by show n0 ≤ σ.1 + 1; omega) (by show m0 ≤ σ.2.1 + N'; omega) H1 locs ls
  have e3 : (nw σ C 0 N' (d0 ci)).1 - n0 = σ.1 - n0 + 1 := by show σ.1 + 1 - n0 = _; omega
  have e4 : (nw σ C 0 N' (d0 ci)).2.1 - m0 = σ.2.1 - m0 + N' := by show σ.2.1 + N' - m0 = _; omega
  rw [e3, e4] at kk2
  have hcell : cellAt D dA σ.1 (C, 0, d0 ci) H1 := by
    unfold cellAt
    show if 11 ≤ C then _ else _
    rw [if_neg (by omega)]
    show t_OB σ.1 (D.1 (C.toNat - 1)) (nF (C.toNat - 1)) (D.2 (C.toNat - 1)) H1 (fun k => pV (tagOf (tyC (C.toNat - 1) k)) (d0 ci k))
    rw [show C.toNat - 1 = ci by omega, c6]
    refine (u_born ty hts c2 hKn hkC e1 c3).to (fun k hk => ?_)
    rw [c5]
    exact hdef k hk
  have kk3 := kk2 (hP.made (by rw [z1, hsz]) (fun q hq => o1 q (by omega)) hcell) (hS.grew (by rw [z1, hsz]) (fun q hq => o1 q (by omega))) hl
  have e5 : pVs (2, (σ.1 : Int)) = .ref σ.1 := by
    show pV 2 (σ.1 : Int) = _
    rw [pV_ref (Int.natCast_nonneg _), Int.toNat_natCast]
  rw [List.map_cons, e5] at kk3
  exact kk3
/-! contracts -/
def QcO (D : va_G) (dA : Nat → ClassId) (b0 : Nat) (ρ : Option Value) (σE : Hp) : Array Value → State → Outcome → State → Prop := fun _ stt oc t => (oc = .returned ρ ∧ Pw D dA b0 σE t.heap ∧ KK D dA t) ∧ va_F (fun q => b0 ≤ q) stt t
def Ct (l : Launch) (D : va_G) (dA : Nat → ClassId) (b0 : Nat) (y : MethodName) (bytes : ByteArray) (maxL : Nat) (ret : Option FieldType) (fr lo : Nat) (av : List (Nat × Int)) (σ : Hp) (ρ : Option Value) (σE : Hp) : Prop :=
  (σ.1 ≤ σE.1 ∧ σ.2.1 ≤ σE.2.1) ∧ Met l y (.code y bytes maxL ret :: tb) { frames := fr, cells := σE.1 - σ.1, slots := σE.2.1 - σ.2.1, locals := lo } (va_Pc (av.map pVs) (fun U => Pw D dA b0 σ U.heap ∧ KK D dA U)) (QcO D dA b0 ρ σE) (σE.1 - σ.1) (σE.2.1 - σ.2.1) (fun q => b0 ≤ q)
abbrev Qm (D : va_G) (dA : Nat → ClassId) (b0 n0 m0 : Nat) (below : List Frame) (args : Array Value) (s : State) (ρ : Option Value) (σE : Hp) : State → Prop := MQ below (QcO D dA b0 ρ σE) args s (σE.1 - n0) (σE.2.1 - m0) (fun q => b0 ≤ q)
theorem ret_ok {ρ : Option Value} {H : Heap} {locs : List Loc} (hK : KK D dA s) (hP : Pw D dA b0 σ H) (hS : va_S (fun q => b0 ≤ q) s.heap H locs) : ∀ t : State, t.heap = H → s.WarmedH t.vm → QcO D dA b0 ρ σ args s (.returned ρ) t :=
  fun t ht hW => ⟨⟨rfl, by rw [ht]; exact hP, KK.moved hW.alike hK⟩, hS.F ht⟩
/-- what a return needs: the method's return type, no lock -/
def Rx (meth : Method) (ret : Option FieldType) : Prop := meth.sig.returnType = ret ∧ meth.locks = false
theorem g_iret {r v : Int} {σE : Hp} (hX : Cx p R s m args meth c D dA b0 n0 m0 nL nE mE cc own fr lo) (hR : Rx meth (some .int)) (hQ : Q = Qm D dA b0 n0 m0 below args s (some (.int (iI r))) σE) (hE : nE = σE.1 ∧ mE = σE.2.1) (hd : decode cc pc = .ok (.ireturn, 1)) (hF : some (v, σ) = some (r, σE)) : G p l e R s m args below meth c D dA b0 n0 m0 nL nE mE Q pc lv [(0, v)] σ := by
  cases hF
  subst hQ
  exact ⟨⟨by rw [hE.1]; exact Nat.le_refl _, by rw [hE.2]; exact Nat.le_refl _⟩, fun h1 h2 H locs ls hP hS hl => W.iret hX.1 hX.2.1 hR.1 (ret_ok hX.2.2.2.2.2.1 hP hS) hS.2.2 hd hR.2⟩
theorem g_zret {r v : Int} {σE : Hp} (hX : Cx p R s m args meth c D dA b0 n0 m0 nL nE mE cc own fr lo) (hR : Rx meth (some .boolean)) (hQ : Q = Qm D dA b0 n0 m0 below args s (some (.int (iI r))) σE) (hE : nE = σE.1 ∧ mE = σE.2.1) (hd : decode cc pc = .ok (.ireturn, 1)) (hF : rz v σ = some (r, σE)) : G p l e R s m args below meth c D dA b0 n0 m0 nL nE mE Q pc lv [(0, v)] σ := by
  unfold rz at hF
  split at hF
  · rename_i h
    cases hF
    subst hQ
    exact ⟨⟨by rw [hE.1]; exact Nat.le_refl _, by rw [hE.2]; exact Nat.le_refl _⟩, fun h1 h2 H locs ls hP hS hl => W.zret hX.1 hX.2.1 hR.1 (pV_bool h).1 (ret_ok hX.2.2.2.2.2.1 hP hS) hS.2.2 hd hR.2⟩
  · cases hF
theorem g_lret {r v : Int} {σE : Hp} (hX : Cx p R s m args meth c D dA b0 n0 m0 nL nE mE cc own fr lo) (hR : Rx meth (some .long)) (hQ : Q = Qm D dA b0 n0 m0 below args s (some (.long (lI r))) σE) (hE : nE = σE.1 ∧ mE = σE.2.1) (hd : decode cc pc = .ok (.lreturn, 1)) (hF : some (v, σ) = some (r, σE)) : G p l e R s m args below meth c D dA b0 n0 m0 nL nE mE Q pc lv [(1, v)] σ := by
  cases hF
  subst hQ
  exact ⟨⟨by rw [hE.1]; exact Nat.le_refl _, by rw [hE.2]; exact Nat.le_refl _⟩, fun h1 h2 H locs ls hP hS hl => W.lret hX.1 hX.2.1 hR.1 (ret_ok hX.2.2.2.2.2.1 hP hS) hS.2.2 hd hR.2⟩
theorem g_vret {r : Int} {σE : Hp} (hX : Cx p R s m args meth c D dA b0 n0 m0 nL nE mE cc own fr lo) (hR : Rx meth none) (hQ : Q = Qm D dA b0 n0 m0 below args s none σE) (hE : nE = σE.1 ∧ mE = σE.2.1) (hd : decode cc pc = .ok (.return_, 1)) (hF : some ((0 : Int), σ) = some (r, σE)) : G p l e R s m args below meth c D dA b0 n0 m0 nL nE mE Q pc lv [] σ := by
  cases hF
  subst hQ
  exact ⟨⟨by rw [hE.1]; exact Nat.le_refl _, by rw [hE.2]; exact Nat.le_refl _⟩, fun h1 h2 H locs ls hP hS hl => W.vret hX.1 hX.2.1 hR.1 (ret_ok hX.2.2.2.2.2.1 hP hS) hS.2.2 hd hR.2⟩
theorem g_aret {r v : Int} {σE : Hp} {K : String} (hX : Cx p R s m args meth c D dA b0 n0 m0 nL nE mE cc own fr lo) (hR : Rx meth (some (.object K))) (hQ : Q = Qm D dA b0 n0 m0 below args s (some (pV 2 r)) σE) (hE : nE = σE.1 ∧ mE = σE.2.1) (hd : decode cc pc = .ok (.areturn, 1)) (hF : some (v, σ) = some (r, σE)) : G p l e R s m args below meth c D dA b0 n0 m0 nL nE mE Q pc lv [(2, v)] σ := by
  cases hF
  subst hQ
  refine ⟨⟨by rw [hE.1]; exact Nat.le_refl _, by rw [hE.2]; exact Nat.le_refl _⟩, fun h1 h2 H locs ls hP hS hl => W.aret hX.1 hX.2.1 hR.1 (Or.inl ⟨K, rfl⟩) ?_ (ret_ok hX.2.2.2.2.2.1 hP hS) hS.2.2 hd hR.2⟩
  by_cases h : r < 0
  · exact Or.inl (pV_null h)
  · exact Or.inr ⟨_, pV_ref (by omega)⟩
end GD
end
section
theorem lw_good {w : Cond} (h : w ∈ tb) : w ∈ tb ∧ ((w.onTables && w.keeps) = true ∨ ∃ ty, w = .arrayClass ty) := ⟨h, good_of_word (List.mem_filter.mp h).2⟩
/-- the words of a call -/
def Vw (own : String) (idx : Nat) (C : String) (y : MethodName) (bytes : ByteArray) (maxL : Nat) (ret : Option FieldType) (n : Nat) : Prop := Cond.methodLink own idx y ∈ tb ∧ Cond.instanceMethod y ∈ tb ∧ Cond.selects C y y ∈ tb ∧ Cond.initialized C ∈ tb ∧ Cond.code y bytes maxL ret ∈ tb ∧ (y.cls = C ∧ y.cls ≠ "java/lang/invoke/MethodHandle" ∧ y.cls ≠ "java/lang/invoke/VarHandle" ∧ (parseMethodDescriptor y.desc).map (fun d => d.parameters.length) = some n)
def Sw (own : String) (idx : Nat) (y : MethodName) (bytes : ByteArray) (maxL : Nat) (ret : Option FieldType) (n : Nat) : Prop := Cond.methodLink own idx y ∈ tb ∧ Cond.static y ∈ tb ∧ Cond.initialized y.cls ∈ tb ∧ Cond.code y bytes maxL ret ∈ tb ∧ (y.cls ≠ "java/lang/invoke/MethodHandle" ∧ y.cls ≠ "java/lang/invoke/VarHandle" ∧ (parseMethodDescriptor y.desc).map (fun d => d.parameters.length) = some n)
def Iw (own : String) (idx : Nat) (y : MethodName) (bytes : ByteArray) (maxL : Nat) (n : Nat) : Prop := Cond.methodLink own idx y ∈ tb ∧ Cond.instanceMethod y ∈ tb ∧ Cond.initialized y.cls ∈ tb ∧ Cond.code y bytes maxL none ∈ tb ∧ y.name = "<init>" ∧ (y.cls ≠ "java/lang/invoke/MethodHandle" ∧ y.cls ≠ "java/lang/invoke/VarHandle" ∧ (parseMethodDescriptor y.desc).map (fun d => d.parameters.length) = some n)
section GE
variable {p : Program} {l : Launch} {e : Env} {R : Room} {s : State} {m : MethodId} {args : Array Value} {below : List Frame} {meth : Method} {c : Code} {D : va_G} {dA : Nat → ClassId} {b0 n0 m0 nL nE mE : Nat} {Q : State → Prop}
variable {cc : ByteArray} {own : String} {fr lo : Nat} {pc : Nat} {lv : List (Nat × Nat × Int)} {st : List (Nat × Int)} {σ : Hp}
variable {γ : Type} {z : γ} {a b : Int}
theorem va_pcBlind {av : List Value} {σ : Hp} : FrameBlind (va_Pc av (fun U => Pw D dA b0 σ U.heap ∧ KK D dA U)) := fun a U g mk q => by
  obtain ⟨q0, qP, qK⟩ := q
  exact ⟨q0, qP, KK.moved (u := U) (U := U.calling g mk a) (Vm.Alike.refl U.vm) qK⟩
theorem g_run {ρ : Option Value} {σ1 : Hp} {rest stk st' : List (Nat × Int)} {av : Array Value} (hle : σ.1 ≤ σ1.1 ∧ σ.2.1 ≤ σ1.2.1)
    (hrun : n0 ≤ σ.1 → m0 ≤ σ.2.1 → σ1.1 ≤ nE → σ1.2.1 ≤ mE → ∀ (H : Heap) (locs : List Loc) (ls : Array Slot), Pw D dA b0 σ H → lv_has ls nL (lvV lv) → va_Run p l e R s m args below meth c H locs (σ.1 - n0) (σ.2.1 - m0) (σ1.1 - σ.1) (σ1.2.1 - σ.2.1) (F0 m pc ls (stk.map pVs)) (rest.map pVs) (QcO D dA b0 ρ σ1 av) (fun q => b0 ≤ q))
    (hρ : ρ.toList ++ rest.map pVs = st'.map pVs) (kk : G p l e R s m args below meth c D dA b0 n0 m0 nL nE mE Q (pc + 3) lv st' σ1) : G p l e R s m args below meth c D dA b0 n0 m0 nL nE mE Q pc lv stk σ := by
  refine ⟨⟨Nat.le_trans hle.1 kk.1.1, Nat.le_trans hle.2 kk.1.2⟩, fun h1 h2 H locs ls hP hS hl => ?_⟩
  have hr := hrun h1 h2 kk.1.1 kk.1.2 H locs ls hP hl
  intro T hT X
  obtain ⟨v, st₀, t, T', L, h0, X', hL, e1, e2, ⟨⟨hv, hP1, hK1⟩, hz, hk⟩, stp⟩ := hr T hT X
  cases hv
  rw [h0] at hz hk
  have k2 := kk.2 (Nat.le_trans h1 hle.1) (Nat.le_trans h2 hle.2) T'.heap (locs ++ L) ls (by rw [e1]; exact hP1)
    ⟨Nat.le_trans hS.1 (by rw [e1]; exact hz), fun q q1 q2 => by rw [e1, hk q (Nat.lt_of_lt_of_le q1 hS.1) q2]; exact hS.2.1 q q1 q2, fun q hq => by
      rcases List.mem_append.mp hq with h | h
      · exact hS.2.2 q h
      · exact hL q h⟩ hl
  have ec : σ.1 - n0 + (σ1.1 - σ.1) = σ1.1 - n0 := by omega
  have es : σ.2.1 - m0 + (σ1.2.1 - σ.2.1) = σ1.2.1 - m0 := by omega
  rw [ec, es] at X'
  rw [← hρ] at k2
  obtain ⟨t2, a1, b1⟩ := k2 T' rfl X'
  exact ⟨t2, stp t2 a1, b1⟩
theorem iv_spec {K : Int} {X : Option γ} (h : iv K σ a X = some z) : kd σ a = K ∧ X = some z := by
  unfold iv at h
  split at h
  · exact ⟨by assumption, h⟩
  · cases h
theorem callV_run {idx ci : Nat} {C : String} {y : MethodName} {bytes : ByteArray} {maxL n fr1 lo1 : Nat} {ret : Option FieldType} {ρ : Option Value} {σ1 : Hp} {K : Int} {As rest stk : List (Nat × Int)} (hX : Cx p R s m args meth c D dA b0 n0 m0 nL nE mE cc own fr lo) (hw : Vw own idx C y bytes maxL ret n) (hcl : (vwCl[ci]?).map (fun r => r.1) = some C) (h9 : ci < 9) (hK : K = ci + 1) (hkd : kd σ b = K)
    (hM : Ct l D dA b0 y bytes maxL ret fr1 lo1 ((2, b) :: As) σ ρ σ1) (hroom : fr1 + 1 ≤ fr ∧ 8 + (maxL + 11) + lo1 ≤ lo) (hn : As.length = n) (hst : stk = As.reverse ++ (2, b) :: rest) (hcat : ws8 rest ≤ 8) (hd : decode cc pc = .ok (.invokevirtual idx, 3)) :
    n0 ≤ σ.1 → m0 ≤ σ.2.1 → σ1.1 ≤ nE → σ1.2.1 ≤ mE → ∀ (H : Heap) (locs : List Loc) (ls : Array Slot), Pw D dA b0 σ H → lv_has ls nL (lvV lv) → va_Run p l e R s m args below meth c H locs (σ.1 - n0) (σ.2.1 - m0) (σ1.1 - σ.1) (σ1.2.1 - σ.2.1) (F0 m pc ls (stk.map pVs)) (rest.map pVs) (QcO D dA b0 ρ σ1 (Value.ref b.toNat :: As.map pVs).toArray) (fun q => b0 ≤ q) := by
  intro h1 h2 h3 h4 H locs ls hP hl
  obtain ⟨hx, hb, hml, hown, hts, hKK, hbs, hrm, hfl⟩ := hX
  obtain ⟨w1, w2, w3, w4, w5, w6⟩ := hw
  obtain ⟨b1, b2, cell, g1, g2, g3, -⟩ := hP.obj hkd hK h9
  obtain ⟨⟨m1, m2⟩, hM⟩ := hM
  have hGood : GoodIn tb (wsV own idx C y (.code y bytes maxL ret :: tb)) := by
    intro w hw
    unfold wsV at hw
    simp only [List.cons_append, List.nil_append, List.mem_cons] at hw
    rcases hw with rfl | rfl | rfl | rfl | rfl | hw
    · exact lw_good w1
    · exact lw_good w2
    · exact lw_good w3
    · exact lw_good w4
    · exact lw_good w5
    · exact lw_good hw
  have hrec : s.vm.findClass C = some cell.cls := by
    obtain ⟨r, hr, hr2⟩ := Option.map_eq_some_iff.mp hcl
    rw [g2, ← hr2]
    exact (hKK.1.1 ci r hr).2.1
  refine va_runV (As := As.map pVs) (rest := rest.map pVs) (b := b.toNat) ⟨hx, hb, hml, hown, hts⟩ hM (cwV n hts hGood rfl rfl rfl w6 ⟨Nat.le_trans hroom.1 hfl.1, Nat.le_trans hroom.2 hfl.2⟩) ⟨va_pcBlind, ⟨cell, g1, by rw [g3]; rfl, hrec⟩, fun U hU hW => ⟨?_, by rw [hU]; exact hP, KK.moved hW.alike hKK⟩⟩ rfl (by rw [List.length_map]; exact hn) hl.1 ?_ (lv_room (by rw [ws8_eq]; exact hcat)) hd ⟨by omega, by omega⟩
  · show (Value.ref b.toNat :: As.map pVs).toArray = (pV 2 b :: As.map pVs).toArray
    rw [pV_ref b1]
  · rw [hst]
    show ((As.reverse ++ (2, b) :: rest).map pVs) = _
    rw [List.map_append, List.map_cons, List.map_reverse]
    show _ ++ pV 2 b :: _ = _
    rw [pV_ref b1]
theorem g_callV {idx ci t : Nat} {C : String} {y : MethodName} {bytes : ByteArray} {maxL n fr1 lo1 : Nat} {ret : Option FieldType} {K : Int} {rest stk : List (Nat × Int)} {fy : Option (Int × Hp)} {f : Int → Hp → Option γ} (As : List (Nat × Int)) (hX : Cx p R s m args meth c D dA b0 n0 m0 nL nE mE cc own fr lo) (hw : Vw own idx C y bytes maxL ret n) (hcl : (vwCl[ci]?).map (fun r => r.1) = some C) (h9 : ci < 9) (hK : K = ci + 1)
    (hT : ∀ r σ1, fy = some (r, σ1) → Ct l D dA b0 y bytes maxL ret fr1 lo1 ((2, b) :: As) σ (some (pV t r)) σ1) (hroom : fr1 + 1 ≤ fr ∧ 8 + (maxL + 11) + lo1 ≤ lo) (hn : As.length = n) (hst : stk = As.reverse ++ (2, b) :: rest) (hcat : ws8 rest ≤ 8) (hd : decode cc pc = .ok (.invokevirtual idx, 3))
    (hF : bd (iv K σ b fy) f = some z) (kk : ∀ r σ1, f r σ1 = some z → G p l e R s m args below meth c D dA b0 n0 m0 nL nE mE Q (pc + 3) lv ((t, r) :: rest) σ1) : G p l e R s m args below meth c D dA b0 n0 m0 nL nE mE Q pc lv stk σ := by
  obtain ⟨r, σ1, hy, hF⟩ := bd_spec hF
  obtain ⟨hkd, hy⟩ := iv_spec hy
  have hM := hT r σ1 hy
  exact g_run hM.1 (callV_run hX hw hcl h9 hK hkd hM hroom hn hst hcat hd) rfl (kk r σ1 hF)
theorem g_callVv {idx ci : Nat} {C : String} {y : MethodName} {bytes : ByteArray} {maxL n fr1 lo1 : Nat} {ret : Option FieldType} {K : Int} {rest stk : List (Nat × Int)} {fy : Option (Int × Hp)} {f : Int → Hp → Option γ} (As : List (Nat × Int)) (hX : Cx p R s m args meth c D dA b0 n0 m0 nL nE mE cc own fr lo) (hw : Vw own idx C y bytes maxL ret n) (hcl : (vwCl[ci]?).map (fun r => r.1) = some C) (h9 : ci < 9) (hK : K = ci + 1)
    (hT : ∀ r σ1, fy = some (r, σ1) → Ct l D dA b0 y bytes maxL ret fr1 lo1 ((2, b) :: As) σ none σ1) (hroom : fr1 + 1 ≤ fr ∧ 8 + (maxL + 11) + lo1 ≤ lo) (hn : As.length = n) (hst : stk = As.reverse ++ (2, b) :: rest) (hcat : ws8 rest ≤ 8) (hd : decode cc pc = .ok (.invokevirtual idx, 3))
    (hF : bd (iv K σ b fy) f = some z) (kk : ∀ r σ1, f r σ1 = some z → G p l e R s m args below meth c D dA b0 n0 m0 nL nE mE Q (pc + 3) lv rest σ1) : G p l e R s m args below meth c D dA b0 n0 m0 nL nE mE Q pc lv stk σ := by
  obtain ⟨r, σ1, hy, hF⟩ := bd_spec hF
  obtain ⟨hkd, hy⟩ := iv_spec hy
  have hM := hT r σ1 hy
  exact g_run hM.1 (callV_run hX hw hcl h9 hK hkd hM hroom hn hst hcat hd) rfl (kk r σ1 hF)
theorem callS_run {idx : Nat} {y : MethodName} {bytes : ByteArray} {maxL n fr1 lo1 : Nat} {ret : Option FieldType} {ρ : Option Value} {σ1 : Hp} {As rest stk : List (Nat × Int)} (hX : Cx p R s m args meth c D dA b0 n0 m0 nL nE mE cc own fr lo) (hw : Sw own idx y bytes maxL ret n)
    (hM : Ct l D dA b0 y bytes maxL ret fr1 lo1 As σ ρ σ1) (hroom : fr1 + 1 ≤ fr ∧ 8 + (maxL + 11) + lo1 ≤ lo) (hn : As.length = n) (hst : stk = As.reverse ++ rest) (hcat : ws8 rest ≤ 8) (hd : decode cc pc = .ok (.invokestatic idx, 3)) :
    n0 ≤ σ.1 → m0 ≤ σ.2.1 → σ1.1 ≤ nE → σ1.2.1 ≤ mE → ∀ (H : Heap) (locs : List Loc) (ls : Array Slot), Pw D dA b0 σ H → lv_has ls nL (lvV lv) → va_Run p l e R s m args below meth c H locs (σ.1 - n0) (σ.2.1 - m0) (σ1.1 - σ.1) (σ1.2.1 - σ.2.1) (F0 m pc ls (stk.map pVs)) (rest.map pVs) (QcO D dA b0 ρ σ1 (As.map pVs).toArray) (fun q => b0 ≤ q) := by
  intro h1 h2 h3 h4 H locs ls hP hl
  obtain ⟨hx, hb, hml, hown, hts, hKK, hbs, hrm, hfl⟩ := hX
  obtain ⟨w1, w2, w3, w4, w6⟩ := hw
  obtain ⟨⟨m1, m2⟩, hM⟩ := hM
  have hGood : GoodIn tb (va_wsS own idx y (.code y bytes maxL ret :: tb)) := by
    intro w hw
    unfold va_wsS at hw
    simp only [List.cons_append, List.nil_append, List.mem_cons] at hw
    rcases hw with rfl | rfl | rfl | rfl | hw
    · exact lw_good w1
    · exact lw_good w2
    · exact lw_good w3
    · exact lw_good w4
    · exact lw_good hw
  refine va_runS (As := As.map pVs) (rest := rest.map pVs) ⟨hx, hb, hml, hown, hts⟩ hM (va_cwS n hts hGood rfl rfl rfl w6 ⟨Nat.le_trans hroom.1 hfl.1, Nat.le_trans hroom.2 hfl.2⟩) ⟨va_pcBlind, fun U hU hW => ⟨rfl, by rw [hU]; exact hP, KK.moved hW.alike hKK⟩⟩ rfl (by rw [List.length_map]; exact hn) hl.1 ?_ (lv_room (by rw [ws8_eq]; exact hcat)) hd ⟨by omega, by omega⟩
  rw [hst]
  show ((As.reverse ++ rest).map pVs) = _
  rw [List.map_append, List.map_reverse]
theorem g_callS {idx t : Nat} {y : MethodName} {bytes : ByteArray} {maxL n fr1 lo1 : Nat} {ret : Option FieldType} {rest stk : List (Nat × Int)} {fy : Option (Int × Hp)} {f : Int → Hp → Option γ} (As : List (Nat × Int)) (hX : Cx p R s m args meth c D dA b0 n0 m0 nL nE mE cc own fr lo) (hw : Sw own idx y bytes maxL ret n)
    (hT : ∀ r σ1, fy = some (r, σ1) → Ct l D dA b0 y bytes maxL ret fr1 lo1 As σ (some (pV t r)) σ1) (hroom : fr1 + 1 ≤ fr ∧ 8 + (maxL + 11) + lo1 ≤ lo) (hn : As.length = n) (hst : stk = As.reverse ++ rest) (hcat : ws8 rest ≤ 8) (hd : decode cc pc = .ok (.invokestatic idx, 3))
    (hF : bd fy f = some z) (kk : ∀ r σ1, f r σ1 = some z → G p l e R s m args below meth c D dA b0 n0 m0 nL nE mE Q (pc + 3) lv ((t, r) :: rest) σ1) : G p l e R s m args below meth c D dA b0 n0 m0 nL nE mE Q pc lv stk σ := by
  obtain ⟨r, σ1, hy, hF⟩ := bd_spec hF
  have hM := hT r σ1 hy
  exact g_run hM.1 (callS_run hX hw hM hroom hn hst hcat hd) rfl (kk r σ1 hF)
theorem g_callSv {idx : Nat} {y : MethodName} {bytes : ByteArray} {maxL n fr1 lo1 : Nat} {ret : Option FieldType} {rest stk : List (Nat × Int)} {fy : Option (Int × Hp)} {f : Int → Hp → Option γ} (As : List (Nat × Int)) (hX : Cx p R s m args meth c D dA b0 n0 m0 nL nE mE cc own fr lo) (hw : Sw own idx y bytes maxL ret n)
    (hT : ∀ r σ1, fy = some (r, σ1) → Ct l D dA b0 y bytes maxL ret fr1 lo1 As σ none σ1) (hroom : fr1 + 1 ≤ fr ∧ 8 + (maxL + 11) + lo1 ≤ lo) (hn : As.length = n) (hst : stk = As.reverse ++ rest) (hcat : ws8 rest ≤ 8) (hd : decode cc pc = .ok (.invokestatic idx, 3))
    (hF : bd fy f = some z) (kk : ∀ r σ1, f r σ1 = some z → G p l e R s m args below meth c D dA b0 n0 m0 nL nE mE Q (pc + 3) lv rest σ1) : G p l e R s m args below meth c D dA b0 n0 m0 nL nE mE Q pc lv stk σ := by
  obtain ⟨r, σ1, hy, hF⟩ := bd_spec hF
  have hM := hT r σ1 hy
  exact g_run hM.1 (callS_run hX hw hM hroom hn hst hcat hd) rfl (kk r σ1 hF)
theorem g_callI {idx : Nat} {y : MethodName} {bytes : ByteArray} {maxL n fr1 lo1 : Nat} {K : Int} {rest stk : List (Nat × Int)} {fy : Option (Int × Hp)} {f : Int → Hp → Option γ} (As : List (Nat × Int)) (hX : Cx p R s m args meth c D dA b0 n0 m0 nL nE mE cc own fr lo) (hw : Iw own idx y bytes maxL n) (h0 : 0 ≤ b)
    (hT : ∀ r σ1, fy = some (r, σ1) → Ct l D dA b0 y bytes maxL none fr1 lo1 ((2, b) :: As) σ none σ1) (hroom : fr1 + 1 ≤ fr ∧ 8 + (maxL + 11) + lo1 ≤ lo) (hn : As.length = n) (hst : stk = As.reverse ++ (2, b) :: rest) (hcat : ws8 rest ≤ 8) (hd : decode cc pc = .ok (.invokespecial idx, 3))
    (hF : bd fy f = some z) (kk : ∀ r σ1, f r σ1 = some z → G p l e R s m args below meth c D dA b0 n0 m0 nL nE mE Q (pc + 3) lv rest σ1) : G p l e R s m args below meth c D dA b0 n0 m0 nL nE mE Q pc lv stk σ := by
  obtain ⟨r, σ1, hy, hF⟩ := bd_spec hF
  have hM := hT r σ1 hy
  refine g_run (rest := rest) (ρ := none) (av := (Value.ref b.toNat :: As.map pVs).toArray) hM.1 ?_ rfl (kk r σ1 hF)
  intro h1 h2 h3 h4 H locs ls hP hl
  obtain ⟨hx, hb, hml, hown, hts, hKK, hbs, hrm, hfl⟩ := hX
  obtain ⟨w1, w2, w3, w4, w5, w6⟩ := hw
  obtain ⟨⟨m1, m2⟩, hM⟩ := hM
  have hGood : GoodIn tb (.code y bytes maxL none :: tb) := by
    intro w hw
    rcases List.mem_cons.mp hw with rfl | hw
    · exact lw_good w4
    · exact lw_good hw
  refine va_runI (As := As.map pVs) (rest := rest.map pVs) (b := b.toNat) ⟨hx, hb, hml, hown, hts⟩ hM (cwI n hts hGood rfl rfl rfl (hts _ w3) (hts _ w1) (hts _ w2) w5 w6 ⟨Nat.le_trans hroom.1 hfl.1, Nat.le_trans hroom.2 hfl.2⟩) ⟨va_pcBlind, fun U hU hW => ⟨?_, by rw [hU]; exact hP, KK.moved hW.alike hKK⟩⟩ rfl (by rw [List.length_map]; exact hn) hl.1 ?_ (lv_room (by rw [ws8_eq]; exact hcat)) hd ⟨by omega, by omega⟩
  · show (Value.ref b.toNat :: As.map pVs).toArray = (pV 2 b :: As.map pVs).toArray
    rw [pV_ref h0]
  · rw [hst]
    show ((As.reverse ++ (2, b) :: rest).map pVs) = _
    rw [List.map_append, List.map_cons, List.map_reverse]
    show _ ++ pV 2 b :: _ = _
    rw [pV_ref h0]
/-- the locals at a method's entry -/
def avL : Nat → List (Nat × Int) → List (Nat × Nat × Int)
  | _, [] => []
  | i, q :: r => (i, q.1, q.2) :: avL (i + (if q.1 = 1 then 2 else 1)) r
theorem avL_V : ∀ (av : List (Nat × Int)) (i : Nat), lv_args i (av.map pVs) = lvV (avL i av)
  | [], _ => rfl
  | q :: r, i => by
    show (i, pV q.1 q.2) :: lv_args (if (pV q.1 q.2).category = 2 then i + 2 else i + 1) (r.map pVs) = (i, pV q.1 q.2) :: lvV (avL (i + (if q.1 = 1 then 2 else 1)) r)
    rw [pV_cat]
    by_cases h : q.1 = 1
    · rw [if_pos h, if_pos rfl, avL_V r]
    · rw [if_neg h, if_neg (by decide), avL_V r]
theorem lg_sl_len : ∀ (vs : List Value), (lg_sl vs).length = (vs.map fun v => v.category).sum
  | [] => rfl
  | v :: r => by
    have h : lg_sl (v :: r) = (if v.category = 2 then [Slot.val v, Slot.second] else [Slot.val v]) ++ lg_sl r := by simp [lg_sl]
    rw [h, List.length_append, lg_sl_len r, List.map_cons, List.sum_cons]
    rcases lv_cat v with hc | hc <;> simp [hc]
/-- a method's contract out of the walk of its body -/
theorem Ct.of {y : MethodName} {bytes : ByteArray} {maxL fr lo : Nat} {ret : Option FieldType} {av : List (Nat × Int)} {lv0 : List (Nat × Nat × Int)} {ρ : Option Value} {σ σE : Hp} (hy : plainName y.cls = true) (own : String) (hown : y.cls = own) (hlen : ws8 av ≤ maxL) (hlv : avL 0 av = lv0)
    (body : ∀ (p : Program) (e : Env) (R : Room) (s : State) (m : MethodId) (args : Array Value) (below : List Frame) (meth : Method) (c : Code), Cx p R s m args meth c D dA b0 σ.1 σ.2.1 maxL σE.1 σE.2.1 bytes own fr lo → Rx meth ret → meth.name = y.name → G p l e R s m args below meth c D dA b0 σ.1 σ.2.1 maxL σE.1 σE.2.1 (Qm D dA b0 σ.1 σ.2.1 below args s ρ σE) 0 lv0 [] σ)
    (hne : σ.1 ≤ σE.1 ∧ σ.2.1 ≤ σE.2.1) : Ct l D dA b0 y bytes maxL ret fr lo av σ ρ σE := by
  refine ⟨hne, ?_⟩
  refine Met.ofW (cc := bytes) (maxL := maxL) (ret := ret) hy rfl ?_
  intro p e s m args below meth c s₁ B hml hv
  obtain ⟨rfl, hP, hK⟩ := hv
  have hts := atoms_spec (ws := .code y bytes maxL ret :: tb) B.pre
  have hl := lv_entry (av.map pVs) (n := maxL) (by rw [lg_sl_len, ws8_eq]; exact hlen)
  rw [lg_entry_eq]
  have hnm := (name_of_methodNamed B.named B.method).1
  have hg := body p e (headSpec (.code y bytes maxL ret :: tb) { frames := fr, cells := σE.1 - σ.1, slots := σE.2.1 - σ.2.1, locals := lo }).room s m _ below meth c
    ⟨B.exec, B.bytes, hml, by rw [← hown]; exact findClass_of_methodNamed B.named, fun w hw => hts w (List.mem_cons_of_mem _ hw), hK, by rw [hP.1]; exact hP.2.1, ⟨Nat.le_refl _, Nat.le_refl _⟩, ⟨Nat.le_refl _, Nat.le_refl _⟩⟩ ⟨B.returns, B.notSynchronized⟩ hnm
  rw [avL_V, hlv] at hl
  have k := hg.2 (Nat.le_refl _) (Nat.le_refl _) s.heap [] _ hP va_S.rf hl
  rw [Nat.sub_self, Nat.sub_self] at k
  exact k
end GE
end
section
section GU
variable {p : Program} {l : Launch} {e : Env} {R : Room} {s : State} {m : MethodId} {args : Array Value} {below : List Frame} {meth : Method} {c : Code} {D : va_G} {dA : Nat → ClassId} {b0 n0 m0 nL nE mE : Nat} {Q : State → Prop}
variable {cc : ByteArray} {own : String} {fr lo : Nat} {pc : Nat} {lv : List (Nat × Nat × Int)} {st : List (Nat × Int)} {σ : Hp}
variable {γ : Type} {z : γ} {a b : Int}
theorem u_put (hX : Cx p R s m args meth c D dA b0 n0 m0 nL nE mE cc own fr lo) {idx ci k t : Nat} {C K v : Int} {f : Hp → Option γ} (hw : FP own idx ci k t) (hC : C = ci + 1) (hK : K = k) (hd : decode cc pc = .ok (.putfield idx, 3)) (hF : (pw C σ a K v).bind f = some z) (kk : ∀ σ1, f σ1 = some z → G p l e R s m args below meth c D dA b0 n0 m0 nL nE mE Q (pc + 3) lv st σ1) : G p l e R s m args below meth c D dA b0 n0 m0 nL nE mE Q pc lv ((t, v) :: (2, a) :: st) σ := g_put hX hw hC hK hd hF (kk _)
theorem u_putF (hX : Cx p R s m args meth c D dA b0 n0 m0 nL nE mE cc own fr lo) {idx ci k t : Nat} {C K v : Int} {f : Hp → Option γ} (hw : FF own idx ci k t) (hnm : meth.name = "<init>") (hC : C = ci + 1) (hK : K = k) (hd : decode cc pc = .ok (.putfield idx, 3)) (hF : (pw C σ a K v).bind f = some z) (kk : ∀ σ1, f σ1 = some z → G p l e R s m args below meth c D dA b0 n0 m0 nL nE mE Q (pc + 3) lv st σ1) : G p l e R s m args below meth c D dA b0 n0 m0 nL nE mE Q pc lv ((t, v) :: (2, a) :: st) σ := g_putF hX hw hnm hC hK hd hF (kk _)
theorem u_putZ (hX : Cx p R s m args meth c D dA b0 n0 m0 nL nE mE cc own fr lo) {idx ci k : Nat} {C K v : Int} {f : Hp → Option γ} (hw : FZ own idx ci k) (hC : C = ci + 1) (hK : K = k) (hd : decode cc pc = .ok (.putfield idx, 3)) (hF : (pz C σ a K v).bind f = some z) (kk : ∀ σ1, f σ1 = some z → G p l e R s m args below meth c D dA b0 n0 m0 nL nE mE Q (pc + 3) lv st σ1) : G p l e R s m args below meth c D dA b0 n0 m0 nL nE mE Q pc lv ((0, v) :: (2, a) :: st) σ := g_putZ hX hw hC hK hd hF (kk _)
theorem u_iast (hX : Cx p R s m args meth c D dA b0 n0 m0 nL nE mE cc own fr lo) {i v : Int} {f : Hp → Option γ} (hd : decode cc pc = .ok (.iastore, 1)) (hF : (aw 11 σ a i v).bind f = some z) (kk : ∀ σ1, f σ1 = some z → G p l e R s m args below meth c D dA b0 n0 m0 nL nE mE Q (pc + 1) lv st σ1) : G p l e R s m args below meth c D dA b0 n0 m0 nL nE mE Q pc lv ((0, v) :: (0, i) :: (2, a) :: st) σ := g_iast hX hd hF (kk _)
theorem u_last (hX : Cx p R s m args meth c D dA b0 n0 m0 nL nE mE cc own fr lo) {i v : Int} {f : Hp → Option γ} (hd : decode cc pc = .ok (.lastore, 1)) (hF : (aw 12 σ a i v).bind f = some z) (kk : ∀ σ1, f σ1 = some z → G p l e R s m args below meth c D dA b0 n0 m0 nL nE mE Q (pc + 1) lv st σ1) : G p l e R s m args below meth c D dA b0 n0 m0 nL nE mE Q pc lv ((1, v) :: (0, i) :: (2, a) :: st) σ := g_last hX hd hF (kk _)
theorem u_zast (hX : Cx p R s m args meth c D dA b0 n0 m0 nL nE mE cc own fr lo) {i v : Int} {f : Hp → Option γ} (hd : decode cc pc = .ok (.bastore, 1)) (hF : (az 13 σ a i v).bind f = some z) (kk : ∀ σ1, f σ1 = some z → G p l e R s m args below meth c D dA b0 n0 m0 nL nE mE Q (pc + 1) lv st σ1) : G p l e R s m args below meth c D dA b0 n0 m0 nL nE mE Q pc lv ((0, v) :: (0, i) :: (2, a) :: st) σ := g_zast hX hd hF (kk _)
theorem u_aast (hX : Cx p R s m args meth c D dA b0 n0 m0 nL nE mE cc own fr lo) {i v C cv : Int} {f : Hp → Option γ} (hC : (C = 14 ∧ cv = 1) ∨ (C = 15 ∧ cv = 2)) (hd : decode cc pc = .ok (.aastore, 1)) (hF : (aq C cv σ a i v).bind f = some z) (kk : ∀ σ1, f σ1 = some z → G p l e R s m args below meth c D dA b0 n0 m0 nL nE mE Q (pc + 1) lv st σ1) : G p l e R s m args below meth c D dA b0 n0 m0 nL nE mE Q pc lv ((2, v) :: (0, i) :: (2, a) :: st) σ := g_aast hX hC hd hF (kk _)
theorem u_newa (hX : Cx p R s m args meth c D dA b0 n0 m0 nL nE mE cc own fr lo) {n C : Int} {ty : FieldType} {atype : ArrayType} {f : Int → Hp → Option γ} (hty : newarray.typeOf atype = ty) (hC : (C = 11 ∧ ty = .int) ∨ (C = 12 ∧ ty = .long) ∨ (C = 13 ∧ ty = .boolean)) (hw : Cond.arrayClass ty ∈ tb) (hd : decode cc pc = .ok (.newarray atype, 2)) (hF : nab C σ n 0 f = some z) (kk : ∀ x σ1, 0 ≤ x → f x σ1 = some z → G p l e R s m args below meth c D dA b0 n0 m0 nL nE mE Q (pc + 2) lv ((2, x) :: st) σ1) : G p l e R s m args below meth c D dA b0 n0 m0 nL nE mE Q pc lv ((0, n) :: st) σ := g_newa (t0 := 0) hX hty hC hw hd hF (kk _ _ (Int.natCast_nonneg _))
theorem u_anew (hX : Cx p R s m args meth c D dA b0 n0 m0 nL nE mE cc own fr lo) {n C : Int} {idx : Nat} {K : String} {f : Int → Hp → Option γ} (hC : (C = 14 ∧ K = "LakeChain$Lake") ∨ (C = 15 ∧ K = "LakeChain$Node")) (hw : Cond.classLink own idx K ∈ tb) (hd : decode cc pc = .ok (.anewarray idx, 3)) (hF : nab C σ n (-1) f = some z) (kk : ∀ x σ1, 0 ≤ x → f x σ1 = some z → G p l e R s m args below meth c D dA b0 n0 m0 nL nE mE Q (pc + 3) lv ((2, x) :: st) σ1) : G p l e R s m args below meth c D dA b0 n0 m0 nL nE mE Q pc lv ((0, n) :: st) σ := g_anew (t0 := 0) hX hC hw hd hF (kk _ _ (Int.natCast_nonneg _))
theorem u_new (hX : Cx p R s m args meth c D dA b0 n0 m0 nL nE mE cc own fr lo) {idx ci N : Nat} {C : Int} {f : Int → Hp → Option γ} (hw : Nw own idx ci) (hC : C = ci + 1) (hN : nF ci = N) (hd : decode cc pc = .ok (.new idx, 3)) (hF : nwb C σ N ci f = some z) (kk : ∀ x σ1, 0 ≤ x → f x σ1 = some z → G p l e R s m args below meth c D dA b0 n0 m0 nL nE mE Q (pc + 3) lv ((2, x) :: st) σ1) : G p l e R s m args below meth c D dA b0 n0 m0 nL nE mE Q pc lv st σ := g_new hX hw hC hN hd (kk _ _ (Int.natCast_nonneg _) hF)
theorem u_objInit (hX : Cx p R s m args meth c D dA b0 n0 m0 nL nE mE cc own fr lo) {idx : Nat} {K : Int} {T : Option γ} (hw : Cond.methodLink own idx objectInit ∈ tb ∧ Cond.instanceMethod objectInit ∈ tb ∧ Cond.code objectInit ⟨#[0xb1]⟩ 1 none ∈ tb) (hK : K ≠ 0) (hfr : 1 ≤ fr) (hlo : ws8 st + 12 ≤ lo) (hd : decode cc pc = .ok (.invokespecial idx, 3)) (hF : iv K σ a T = some z) (k : T = some z → G p l e R s m args below meth c D dA b0 n0 m0 nL nE mE Q (pc + 3) lv st σ) : G p l e R s m args below meth c D dA b0 n0 m0 nL nE mE Q pc lv ((2, a) :: st) σ := by
  obtain ⟨hkd, hF⟩ := iv_spec hF
  have k := k hF
  refine ⟨k.1, fun h1 h2 H locs ls hP hS hl => ?_⟩
  have h0 := (hP.2.2 a (by rw [hkd]; exact hK)).1
  exact (g_objInit hX hw h0 hfr hlo hd k).2 h1 h2 H locs ls hP hS hl
end GU
end
section
theorem memW {w : Cond} (i : Nat) (h : lw_tbl[i]? = some w) (hg : goodWord w = true) : w ∈ tb := tb_mem i h hg
theorem inT0 : ∀ w ∈ u_ws RX0 TX0 9, w ∈ tb := by
  intro w h
  refine List.mem_filter.mpr ⟨?_, ?_⟩
  · exact (by decide +kernel : ∀ w ∈ u_ws RX0 TX0 9, w ∈ lw_tbl) w h
  · exact (by decide +kernel : ∀ w ∈ u_ws RX0 TX0 9, goodWord w = true) w h
theorem cf0 : CFt 0 RX0 TX0 9 tyX0 := ⟨rfl, inT0, tyX0_ok, nmX0, rfl, rfl, by decide⟩
theorem inT1 : ∀ w ∈ u_ws RX1 TX1 16, w ∈ tb := by
  intro w h
  refine List.mem_filter.mpr ⟨?_, ?_⟩
  · exact (by decide +kernel : ∀ w ∈ u_ws RX1 TX1 16, w ∈ lw_tbl) w h
  · exact (by decide +kernel : ∀ w ∈ u_ws RX1 TX1 16, goodWord w = true) w h
theorem cf1 : CFt 1 RX1 TX1 16 tyX1 := ⟨rfl, inT1, tyX1_ok, nmX1, rfl, rfl, by decide⟩
theorem inT2 : ∀ w ∈ u_ws RX2 TX2 8, w ∈ tb := by
  intro w h
  refine List.mem_filter.mpr ⟨?_, ?_⟩
  · exact (by decide +kernel : ∀ w ∈ u_ws RX2 TX2 8, w ∈ lw_tbl) w h
  · exact (by decide +kernel : ∀ w ∈ u_ws RX2 TX2 8, goodWord w = true) w h
theorem cf2 : CFt 2 RX2 TX2 8 tyX2 := ⟨rfl, inT2, tyX2_ok, nmX2, rfl, rfl, by decide⟩
theorem inT3 : ∀ w ∈ u_ws RX3 TX3 5, w ∈ tb := by
  intro w h
  refine List.mem_filter.mpr ⟨?_, ?_⟩
  · exact (by decide +kernel : ∀ w ∈ u_ws RX3 TX3 5, w ∈ lw_tbl) w h
  · exact (by decide +kernel : ∀ w ∈ u_ws RX3 TX3 5, goodWord w = true) w h
theorem cf3 : CFt 3 RX3 TX3 5 tyX3 := ⟨rfl, inT3, tyX3_ok, nmX3, rfl, rfl, by decide⟩
theorem inT4 : ∀ w ∈ u_ws RX4 TX4 4, w ∈ tb := by
  intro w h
  refine List.mem_filter.mpr ⟨?_, ?_⟩
  · exact (by decide +kernel : ∀ w ∈ u_ws RX4 TX4 4, w ∈ lw_tbl) w h
  · exact (by decide +kernel : ∀ w ∈ u_ws RX4 TX4 4, goodWord w = true) w h
theorem cf4 : CFt 4 RX4 TX4 4 tyX4 := ⟨rfl, inT4, tyX4_ok, nmX4, rfl, rfl, by decide⟩
theorem inT5 : ∀ w ∈ u_ws RX5 TX5 2, w ∈ tb := by
  intro w h
  refine List.mem_filter.mpr ⟨?_, ?_⟩
  · exact (by decide +kernel : ∀ w ∈ u_ws RX5 TX5 2, w ∈ lw_tbl) w h
  · exact (by decide +kernel : ∀ w ∈ u_ws RX5 TX5 2, goodWord w = true) w h
theorem cf5 : CFt 5 RX5 TX5 2 tyX5 := ⟨rfl, inT5, tyX5_ok, nmX5, rfl, rfl, by decide⟩
theorem inT6 : ∀ w ∈ u_ws RX6 TX6 4, w ∈ tb := by
  intro w h
  refine List.mem_filter.mpr ⟨?_, ?_⟩
  · exact (by decide +kernel : ∀ w ∈ u_ws RX6 TX6 4, w ∈ lw_tbl) w h
  · exact (by decide +kernel : ∀ w ∈ u_ws RX6 TX6 4, goodWord w = true) w h
theorem cf6 : CFt 6 RX6 TX6 4 tyX6 := ⟨rfl, inT6, tyX6_ok, nmX6, rfl, rfl, by decide⟩
theorem inT7 : ∀ w ∈ u_ws RX7 TX7 5, w ∈ tb := by
  intro w h
  refine List.mem_filter.mpr ⟨?_, ?_⟩
  · exact (by decide +kernel : ∀ w ∈ u_ws RX7 TX7 5, w ∈ lw_tbl) w h
  · exact (by decide +kernel : ∀ w ∈ u_ws RX7 TX7 5, goodWord w = true) w h
theorem cf7 : CFt 7 RX7 TX7 5 tyX7 := ⟨rfl, inT7, tyX7_ok, nmX7, rfl, rfl, by decide⟩
theorem inT8 : ∀ w ∈ u_ws RX8 TX8 40, w ∈ tb := by
  intro w h
  refine List.mem_filter.mpr ⟨?_, ?_⟩
  · exact (by decide +kernel : ∀ w ∈ u_ws RX8 TX8 40, w ∈ lw_tbl) w h
  · exact (by decide +kernel : ∀ w ∈ u_ws RX8 TX8 40, goodWord w = true) w h
theorem cf8 : CFt 8 RX8 TX8 40 tyX8 := ⟨rfl, inT8, tyX8_ok, nmX8, rfl, rfl, by decide⟩
theorem wl_X0_9 : Cond.fieldLink RX0 9 (TX0 0).1 (TX0 0).2.1 (TX0 0).2.2.1 ∈ tb := memW 76 (by decide +kernel) (by decide)
theorem fl_X0_9 : FL RX0 9 0 0 2 := ⟨_, _, _, _, cf0, by decide, wl_X0_9, rfl⟩
theorem fp_X0_9 : FF RX0 9 0 0 2 := ⟨_, _, _, _, cf0, by decide, wl_X0_9, rfl, rfl, rfl, rfl⟩
theorem wl_X7_85 : Cond.fieldLink RX7 85 (TX0 0).1 (TX0 0).2.1 (TX0 0).2.2.1 ∈ tb := memW 77 (by decide +kernel) (by decide)
theorem fl_X7_85 : FL RX7 85 0 0 2 := ⟨_, _, _, _, cf0, by decide, wl_X7_85, rfl⟩
theorem wl_X4_28 : Cond.fieldLink RX4 28 (TX0 1).1 (TX0 1).2.1 (TX0 1).2.2.1 ∈ tb := memW 78 (by decide +kernel) (by decide)
theorem fl_X4_28 : FL RX4 28 0 1 0 := ⟨_, _, _, _, cf0, by decide, wl_X4_28, rfl⟩
theorem fp_X4_28 : FP RX4 28 0 1 0 := ⟨_, _, _, _, cf0, by decide, wl_X4_28, rfl, rfl, rfl⟩
theorem wl_X0_50 : Cond.fieldLink RX0 50 (TX0 1).1 (TX0 1).2.1 (TX0 1).2.2.1 ∈ tb := memW 79 (by decide +kernel) (by decide)
theorem fl_X0_50 : FL RX0 50 0 1 0 := ⟨_, _, _, _, cf0, by decide, wl_X0_50, rfl⟩
theorem fp_X0_50 : FP RX0 50 0 1 0 := ⟨_, _, _, _, cf0, by decide, wl_X0_50, rfl, rfl, rfl⟩
theorem wl_X4_31 : Cond.fieldLink RX4 31 (TX0 2).1 (TX0 2).2.1 (TX0 2).2.2.1 ∈ tb := memW 80 (by decide +kernel) (by decide)
theorem fl_X4_31 : FL RX4 31 0 2 0 := ⟨_, _, _, _, cf0, by decide, wl_X4_31, rfl⟩
theorem fp_X4_31 : FP RX4 31 0 2 0 := ⟨_, _, _, _, cf0, by decide, wl_X4_31, rfl, rfl, rfl⟩
theorem wl_X7_73 : Cond.fieldLink RX7 73 (TX0 2).1 (TX0 2).2.1 (TX0 2).2.2.1 ∈ tb := memW 81 (by decide +kernel) (by decide)
theorem fl_X7_73 : FL RX7 73 0 2 0 := ⟨_, _, _, _, cf0, by decide, wl_X7_73, rfl⟩
theorem fp_X7_73 : FP RX7 73 0 2 0 := ⟨_, _, _, _, cf0, by decide, wl_X7_73, rfl, rfl, rfl⟩
theorem wl_X0_32 : Cond.fieldLink RX0 32 (TX0 2).1 (TX0 2).2.1 (TX0 2).2.2.1 ∈ tb := memW 82 (by decide +kernel) (by decide)
theorem fl_X0_32 : FL RX0 32 0 2 0 := ⟨_, _, _, _, cf0, by decide, wl_X0_32, rfl⟩
theorem fp_X0_32 : FP RX0 32 0 2 0 := ⟨_, _, _, _, cf0, by decide, wl_X0_32, rfl, rfl, rfl⟩
theorem wl_X6_96 : Cond.fieldLink RX6 96 (TX0 2).1 (TX0 2).2.1 (TX0 2).2.2.1 ∈ tb := memW 83 (by decide +kernel) (by decide)
theorem fl_X6_96 : FL RX6 96 0 2 0 := ⟨_, _, _, _, cf0, by decide, wl_X6_96, rfl⟩
theorem fp_X6_96 : FP RX6 96 0 2 0 := ⟨_, _, _, _, cf0, by decide, wl_X6_96, rfl, rfl, rfl⟩
theorem wl_X4_34 : Cond.fieldLink RX4 34 (TX0 3).1 (TX0 3).2.1 (TX0 3).2.2.1 ∈ tb := memW 84 (by decide +kernel) (by decide)
theorem fl_X4_34 : FL RX4 34 0 3 0 := ⟨_, _, _, _, cf0, by decide, wl_X4_34, rfl⟩
theorem fp_X4_34 : FP RX4 34 0 3 0 := ⟨_, _, _, _, cf0, by decide, wl_X4_34, rfl, rfl, rfl⟩
theorem wl_X0_47 : Cond.fieldLink RX0 47 (TX0 3).1 (TX0 3).2.1 (TX0 3).2.2.1 ∈ tb := memW 85 (by decide +kernel) (by decide)
theorem fl_X0_47 : FL RX0 47 0 3 0 := ⟨_, _, _, _, cf0, by decide, wl_X0_47, rfl⟩
theorem fp_X0_47 : FP RX0 47 0 3 0 := ⟨_, _, _, _, cf0, by decide, wl_X0_47, rfl, rfl, rfl⟩
theorem wl_X4_37 : Cond.fieldLink RX4 37 (TX0 4).1 (TX0 4).2.1 (TX0 4).2.2.1 ∈ tb := memW 86 (by decide +kernel) (by decide)
theorem fl_X4_37 : FL RX4 37 0 4 0 := ⟨_, _, _, _, cf0, by decide, wl_X4_37, rfl⟩
theorem fp_X4_37 : FP RX4 37 0 4 0 := ⟨_, _, _, _, cf0, by decide, wl_X4_37, rfl, rfl, rfl⟩
theorem wl_X0_35 : Cond.fieldLink RX0 35 (TX0 4).1 (TX0 4).2.1 (TX0 4).2.2.1 ∈ tb := memW 87 (by decide +kernel) (by decide)
theorem fl_X0_35 : FL RX0 35 0 4 0 := ⟨_, _, _, _, cf0, by decide, wl_X0_35, rfl⟩
theorem fp_X0_35 : FP RX0 35 0 4 0 := ⟨_, _, _, _, cf0, by decide, wl_X0_35, rfl, rfl, rfl⟩
theorem wl_X7_89 : Cond.fieldLink RX7 89 (TX0 5).1 (TX0 5).2.1 (TX0 5).2.2.1 ∈ tb := memW 88 (by decide +kernel) (by decide)
theorem fl_X7_89 : FL RX7 89 0 5 0 := ⟨_, _, _, _, cf0, by decide, wl_X7_89, rfl⟩
theorem fp_X7_89 : FP RX7 89 0 5 0 := ⟨_, _, _, _, cf0, by decide, wl_X7_89, rfl, rfl, rfl⟩
theorem wl_X4_44 : Cond.fieldLink RX4 44 (TX0 5).1 (TX0 5).2.1 (TX0 5).2.2.1 ∈ tb := memW 89 (by decide +kernel) (by decide)
theorem fl_X4_44 : FL RX4 44 0 5 0 := ⟨_, _, _, _, cf0, by decide, wl_X4_44, rfl⟩
theorem fp_X4_44 : FP RX4 44 0 5 0 := ⟨_, _, _, _, cf0, by decide, wl_X4_44, rfl, rfl, rfl⟩
theorem wl_X0_56 : Cond.fieldLink RX0 56 (TX0 6).1 (TX0 6).2.1 (TX0 6).2.2.1 ∈ tb := memW 90 (by decide +kernel) (by decide)
theorem fl_X0_56 : FL RX0 56 0 6 0 := ⟨_, _, _, _, cf0, by decide, wl_X0_56, rfl⟩
theorem fp_X0_56 : FP RX0 56 0 6 0 := ⟨_, _, _, _, cf0, by decide, wl_X0_56, rfl, rfl, rfl⟩
theorem wl_X7_180 : Cond.fieldLink RX7 180 (TX0 6).1 (TX0 6).2.1 (TX0 6).2.2.1 ∈ tb := memW 91 (by decide +kernel) (by decide)
theorem fl_X7_180 : FL RX7 180 0 6 0 := ⟨_, _, _, _, cf0, by decide, wl_X7_180, rfl⟩
theorem fp_X7_180 : FP RX7 180 0 6 0 := ⟨_, _, _, _, cf0, by decide, wl_X7_180, rfl, rfl, rfl⟩
theorem wl_X0_15 : Cond.fieldLink RX0 15 (TX0 7).1 (TX0 7).2.1 (TX0 7).2.2.1 ∈ tb := memW 92 (by decide +kernel) (by decide)
theorem fl_X0_15 : FL RX0 15 0 7 0 := ⟨_, _, _, _, cf0, by decide, wl_X0_15, rfl⟩
theorem fp_X0_15 : FP RX0 15 0 7 0 := ⟨_, _, _, _, cf0, by decide, wl_X0_15, rfl, rfl, rfl⟩
theorem wl_X7_183 : Cond.fieldLink RX7 183 (TX0 7).1 (TX0 7).2.1 (TX0 7).2.2.1 ∈ tb := memW 93 (by decide +kernel) (by decide)
theorem fl_X7_183 : FL RX7 183 0 7 0 := ⟨_, _, _, _, cf0, by decide, wl_X7_183, rfl⟩
theorem fp_X7_183 : FP RX7 183 0 7 0 := ⟨_, _, _, _, cf0, by decide, wl_X7_183, rfl, rfl, rfl⟩
theorem wl_X0_19 : Cond.fieldLink RX0 19 (TX0 8).1 (TX0 8).2.1 (TX0 8).2.2.1 ∈ tb := memW 94 (by decide +kernel) (by decide)
theorem fl_X0_19 : FL RX0 19 0 8 0 := ⟨_, _, _, _, cf0, by decide, wl_X0_19, rfl⟩
theorem fp_X0_19 : FP RX0 19 0 8 0 := ⟨_, _, _, _, cf0, by decide, wl_X0_19, rfl, rfl, rfl⟩
theorem wl_X4_25 : Cond.fieldLink RX4 25 (TX0 8).1 (TX0 8).2.1 (TX0 8).2.2.1 ∈ tb := memW 95 (by decide +kernel) (by decide)
theorem fl_X4_25 : FL RX4 25 0 8 0 := ⟨_, _, _, _, cf0, by decide, wl_X4_25, rfl⟩
theorem fp_X4_25 : FP RX4 25 0 8 0 := ⟨_, _, _, _, cf0, by decide, wl_X4_25, rfl, rfl, rfl⟩
theorem wl_X6_104 : Cond.fieldLink RX6 104 (TX0 8).1 (TX0 8).2.1 (TX0 8).2.2.1 ∈ tb := memW 96 (by decide +kernel) (by decide)
theorem fl_X6_104 : FL RX6 104 0 8 0 := ⟨_, _, _, _, cf0, by decide, wl_X6_104, rfl⟩
theorem fp_X6_104 : FP RX6 104 0 8 0 := ⟨_, _, _, _, cf0, by decide, wl_X6_104, rfl, rfl, rfl⟩
theorem wl_X7_174 : Cond.fieldLink RX7 174 (TX0 8).1 (TX0 8).2.1 (TX0 8).2.2.1 ∈ tb := memW 97 (by decide +kernel) (by decide)
theorem fl_X7_174 : FL RX7 174 0 8 0 := ⟨_, _, _, _, cf0, by decide, wl_X7_174, rfl⟩
theorem fp_X7_174 : FP RX7 174 0 8 0 := ⟨_, _, _, _, cf0, by decide, wl_X7_174, rfl, rfl, rfl⟩
theorem wl_X4_11 : Cond.fieldLink RX4 11 (TX4 0).1 (TX4 0).2.1 (TX4 0).2.2.1 ∈ tb := memW 118 (by decide +kernel) (by decide)
theorem fl_X4_11 : FL RX4 11 4 0 2 := ⟨_, _, _, _, cf4, by decide, wl_X4_11, rfl⟩
theorem fp_X4_11 : FF RX4 11 4 0 2 := ⟨_, _, _, _, cf4, by decide, wl_X4_11, rfl, rfl, rfl, rfl⟩
theorem wl_X6_70 : Cond.fieldLink RX6 70 (TX4 0).1 (TX4 0).2.1 (TX4 0).2.2.1 ∈ tb := memW 119 (by decide +kernel) (by decide)
theorem fl_X6_70 : FL RX6 70 4 0 2 := ⟨_, _, _, _, cf4, by decide, wl_X6_70, rfl⟩
theorem wl_X4_22 : Cond.fieldLink RX4 22 (TX4 1).1 (TX4 1).2.1 (TX4 1).2.2.1 ∈ tb := memW 120 (by decide +kernel) (by decide)
theorem fl_X4_22 : FL RX4 22 4 1 0 := ⟨_, _, _, _, cf4, by decide, wl_X4_22, rfl⟩
theorem fp_X4_22 : FP RX4 22 4 1 0 := ⟨_, _, _, _, cf4, by decide, wl_X4_22, rfl, rfl, rfl⟩
theorem wl_X7_50 : Cond.fieldLink RX7 50 (TX4 1).1 (TX4 1).2.1 (TX4 1).2.2.1 ∈ tb := memW 121 (by decide +kernel) (by decide)
theorem fl_X7_50 : FL RX7 50 4 1 0 := ⟨_, _, _, _, cf4, by decide, wl_X7_50, rfl⟩
theorem fp_X7_50 : FP RX7 50 4 1 0 := ⟨_, _, _, _, cf4, by decide, wl_X7_50, rfl, rfl, rfl⟩
theorem wl_X4_17 : Cond.fieldLink RX4 17 (TX4 2).1 (TX4 2).2.1 (TX4 2).2.2.1 ∈ tb := memW 122 (by decide +kernel) (by decide)
theorem fl_X4_17 : FL RX4 17 4 2 0 := ⟨_, _, _, _, cf4, by decide, wl_X4_17, rfl⟩
theorem fp_X4_17 : FP RX4 17 4 2 0 := ⟨_, _, _, _, cf4, by decide, wl_X4_17, rfl, rfl, rfl⟩
theorem wl_X7_54 : Cond.fieldLink RX7 54 (TX4 2).1 (TX4 2).2.1 (TX4 2).2.2.1 ∈ tb := memW 123 (by decide +kernel) (by decide)
theorem fl_X7_54 : FL RX7 54 4 2 0 := ⟨_, _, _, _, cf4, by decide, wl_X7_54, rfl⟩
theorem fp_X7_54 : FP RX7 54 4 2 0 := ⟨_, _, _, _, cf4, by decide, wl_X7_54, rfl, rfl, rfl⟩
theorem wl_X6_61 : Cond.fieldLink RX6 61 (TX4 2).1 (TX4 2).2.1 (TX4 2).2.2.1 ∈ tb := memW 124 (by decide +kernel) (by decide)
theorem fl_X6_61 : FL RX6 61 4 2 0 := ⟨_, _, _, _, cf4, by decide, wl_X6_61, rfl⟩
theorem fp_X6_61 : FP RX6 61 4 2 0 := ⟨_, _, _, _, cf4, by decide, wl_X6_61, rfl, rfl, rfl⟩
theorem wl_X4_63 : Cond.fieldLink RX4 63 (TX4 3).1 (TX4 3).2.1 (TX4 3).2.2.1 ∈ tb := memW 125 (by decide +kernel) (by decide)
theorem fl_X4_63 : FL RX4 63 4 3 0 := ⟨_, _, _, _, cf4, by decide, wl_X4_63, rfl⟩
theorem fp_X4_63 : FP RX4 63 4 3 0 := ⟨_, _, _, _, cf4, by decide, wl_X4_63, rfl, rfl, rfl⟩
theorem wl_X7_266 : Cond.fieldLink RX7 266 (TX4 3).1 (TX4 3).2.1 (TX4 3).2.2.1 ∈ tb := memW 126 (by decide +kernel) (by decide)
theorem fl_X7_266 : FL RX7 266 4 3 0 := ⟨_, _, _, _, cf4, by decide, wl_X7_266, rfl⟩
theorem fp_X7_266 : FP RX7 266 4 3 0 := ⟨_, _, _, _, cf4, by decide, wl_X7_266, rfl, rfl, rfl⟩
theorem wl_X1_23 : Cond.fieldLink RX1 23 (TX1 0).1 (TX1 0).2.1 (TX1 0).2.2.1 ∈ tb := memW 150 (by decide +kernel) (by decide)
theorem fl_X1_23 : FL RX1 23 1 0 0 := ⟨_, _, _, _, cf1, by decide, wl_X1_23, rfl⟩
theorem fp_X1_23 : FF RX1 23 1 0 0 := ⟨_, _, _, _, cf1, by decide, wl_X1_23, rfl, rfl, rfl, rfl⟩
theorem wl_X7_130 : Cond.fieldLink RX7 130 (TX1 0).1 (TX1 0).2.1 (TX1 0).2.2.1 ∈ tb := memW 151 (by decide +kernel) (by decide)
theorem fl_X7_130 : FL RX7 130 1 0 0 := ⟨_, _, _, _, cf1, by decide, wl_X7_130, rfl⟩
theorem wl_X1_9 : Cond.fieldLink RX1 9 (TX1 1).1 (TX1 1).2.1 (TX1 1).2.2.1 ∈ tb := memW 152 (by decide +kernel) (by decide)
theorem fl_X1_9 : FL RX1 9 1 1 2 := ⟨_, _, _, _, cf1, by decide, wl_X1_9, rfl⟩
theorem fp_X1_9 : FF RX1 9 1 1 2 := ⟨_, _, _, _, cf1, by decide, wl_X1_9, rfl, rfl, rfl, rfl⟩
theorem wl_X5_62 : Cond.fieldLink RX5 62 (TX1 1).1 (TX1 1).2.1 (TX1 1).2.2.1 ∈ tb := memW 153 (by decide +kernel) (by decide)
theorem fl_X5_62 : FL RX5 62 1 1 2 := ⟨_, _, _, _, cf1, by decide, wl_X5_62, rfl⟩
theorem wl_X7_123 : Cond.fieldLink RX7 123 (TX1 1).1 (TX1 1).2.1 (TX1 1).2.2.1 ∈ tb := memW 154 (by decide +kernel) (by decide)
theorem fl_X7_123 : FL RX7 123 1 1 2 := ⟨_, _, _, _, cf1, by decide, wl_X7_123, rfl⟩
theorem wl_X6_123 : Cond.fieldLink RX6 123 (TX1 1).1 (TX1 1).2.1 (TX1 1).2.2.1 ∈ tb := memW 155 (by decide +kernel) (by decide)
theorem fl_X6_123 : FL RX6 123 1 1 2 := ⟨_, _, _, _, cf1, by decide, wl_X6_123, rfl⟩
theorem wl_X1_15 : Cond.fieldLink RX1 15 (TX1 2).1 (TX1 2).2.1 (TX1 2).2.2.1 ∈ tb := memW 156 (by decide +kernel) (by decide)
theorem fl_X1_15 : FL RX1 15 1 2 2 := ⟨_, _, _, _, cf1, by decide, wl_X1_15, rfl⟩
theorem fp_X1_15 : FF RX1 15 1 2 2 := ⟨_, _, _, _, cf1, by decide, wl_X1_15, rfl, rfl, rfl, rfl⟩
theorem wl_X5_48 : Cond.fieldLink RX5 48 (TX1 3).1 (TX1 3).2.1 (TX1 3).2.2.1 ∈ tb := memW 157 (by decide +kernel) (by decide)
theorem fl_X5_48 : FL RX5 48 1 3 2 := ⟨_, _, _, _, cf1, by decide, wl_X5_48, rfl⟩
theorem fp_X5_48 : FP RX5 48 1 3 2 := ⟨_, _, _, _, cf1, by decide, wl_X5_48, rfl, rfl, rfl⟩
theorem wl_X3_43 : Cond.fieldLink RX3 43 (TX1 3).1 (TX1 3).2.1 (TX1 3).2.2.1 ∈ tb := memW 158 (by decide +kernel) (by decide)
theorem fl_X3_43 : FL RX3 43 1 3 2 := ⟨_, _, _, _, cf1, by decide, wl_X3_43, rfl⟩
theorem fp_X3_43 : FP RX3 43 1 3 2 := ⟨_, _, _, _, cf1, by decide, wl_X3_43, rfl, rfl, rfl⟩
theorem wl_X7_133 : Cond.fieldLink RX7 133 (TX1 3).1 (TX1 3).2.1 (TX1 3).2.2.1 ∈ tb := memW 159 (by decide +kernel) (by decide)
theorem fl_X7_133 : FL RX7 133 1 3 2 := ⟨_, _, _, _, cf1, by decide, wl_X7_133, rfl⟩
theorem fp_X7_133 : FP RX7 133 1 3 2 := ⟨_, _, _, _, cf1, by decide, wl_X7_133, rfl, rfl, rfl⟩
theorem wl_X5_78 : Cond.fieldLink RX5 78 (TX1 4).1 (TX1 4).2.1 (TX1 4).2.2.1 ∈ tb := memW 160 (by decide +kernel) (by decide)
theorem fl_X5_78 : FL RX5 78 1 4 0 := ⟨_, _, _, _, cf1, by decide, wl_X5_78, rfl⟩
theorem fp_X5_78 : FP RX5 78 1 4 0 := ⟨_, _, _, _, cf1, by decide, wl_X5_78, rfl, rfl, rfl⟩
theorem wl_X1_32 : Cond.fieldLink RX1 32 (TX1 4).1 (TX1 4).2.1 (TX1 4).2.2.1 ∈ tb := memW 161 (by decide +kernel) (by decide)
theorem fl_X1_32 : FL RX1 32 1 4 0 := ⟨_, _, _, _, cf1, by decide, wl_X1_32, rfl⟩
theorem fp_X1_32 : FP RX1 32 1 4 0 := ⟨_, _, _, _, cf1, by decide, wl_X1_32, rfl, rfl, rfl⟩
theorem wl_X3_47 : Cond.fieldLink RX3 47 (TX1 4).1 (TX1 4).2.1 (TX1 4).2.2.1 ∈ tb := memW 162 (by decide +kernel) (by decide)
theorem fl_X3_47 : FL RX3 47 1 4 0 := ⟨_, _, _, _, cf1, by decide, wl_X3_47, rfl⟩
theorem fp_X3_47 : FP RX3 47 1 4 0 := ⟨_, _, _, _, cf1, by decide, wl_X3_47, rfl, rfl, rfl⟩
theorem wl_X7_137 : Cond.fieldLink RX7 137 (TX1 4).1 (TX1 4).2.1 (TX1 4).2.2.1 ∈ tb := memW 163 (by decide +kernel) (by decide)
theorem fl_X7_137 : FL RX7 137 1 4 0 := ⟨_, _, _, _, cf1, by decide, wl_X7_137, rfl⟩
theorem fp_X7_137 : FP RX7 137 1 4 0 := ⟨_, _, _, _, cf1, by decide, wl_X7_137, rfl, rfl, rfl⟩
theorem wl_X6_120 : Cond.fieldLink RX6 120 (TX1 4).1 (TX1 4).2.1 (TX1 4).2.2.1 ∈ tb := memW 164 (by decide +kernel) (by decide)
theorem fl_X6_120 : FL RX6 120 1 4 0 := ⟨_, _, _, _, cf1, by decide, wl_X6_120, rfl⟩
theorem fp_X6_120 : FP RX6 120 1 4 0 := ⟨_, _, _, _, cf1, by decide, wl_X6_120, rfl, rfl, rfl⟩
theorem wl_X1_19 : Cond.fieldLink RX1 19 (TX1 5).1 (TX1 5).2.1 (TX1 5).2.2.1 ∈ tb := memW 165 (by decide +kernel) (by decide)
theorem fl_X1_19 : FL RX1 19 1 5 0 := ⟨_, _, _, _, cf1, by decide, wl_X1_19, rfl⟩
theorem fp_X1_19 : FP RX1 19 1 5 0 := ⟨_, _, _, _, cf1, by decide, wl_X1_19, rfl, rfl, rfl⟩
theorem wl_X3_50 : Cond.fieldLink RX3 50 (TX1 5).1 (TX1 5).2.1 (TX1 5).2.2.1 ∈ tb := memW 166 (by decide +kernel) (by decide)
theorem fl_X3_50 : FL RX3 50 1 5 0 := ⟨_, _, _, _, cf1, by decide, wl_X3_50, rfl⟩
theorem fp_X3_50 : FP RX3 50 1 5 0 := ⟨_, _, _, _, cf1, by decide, wl_X3_50, rfl, rfl, rfl⟩
theorem wl_X7_140 : Cond.fieldLink RX7 140 (TX1 5).1 (TX1 5).2.1 (TX1 5).2.2.1 ∈ tb := memW 167 (by decide +kernel) (by decide)
theorem fl_X7_140 : FL RX7 140 1 5 0 := ⟨_, _, _, _, cf1, by decide, wl_X7_140, rfl⟩
theorem fp_X7_140 : FP RX7 140 1 5 0 := ⟨_, _, _, _, cf1, by decide, wl_X7_140, rfl, rfl, rfl⟩
theorem wl_X5_106 : Cond.fieldLink RX5 106 (TX1 5).1 (TX1 5).2.1 (TX1 5).2.2.1 ∈ tb := memW 168 (by decide +kernel) (by decide)
theorem fl_X5_106 : FL RX5 106 1 5 0 := ⟨_, _, _, _, cf1, by decide, wl_X5_106, rfl⟩
theorem fp_X5_106 : FP RX5 106 1 5 0 := ⟨_, _, _, _, cf1, by decide, wl_X5_106, rfl, rfl, rfl⟩
theorem wl_X1_26 : Cond.fieldLink RX1 26 (TX1 6).1 (TX1 6).2.1 (TX1 6).2.2.1 ∈ tb := memW 169 (by decide +kernel) (by decide)
theorem fl_X1_26 : FL RX1 26 1 6 0 := ⟨_, _, _, _, cf1, by decide, wl_X1_26, rfl⟩
theorem fp_X1_26 : FP RX1 26 1 6 0 := ⟨_, _, _, _, cf1, by decide, wl_X1_26, rfl, rfl, rfl⟩
theorem wl_X7_143 : Cond.fieldLink RX7 143 (TX1 6).1 (TX1 6).2.1 (TX1 6).2.2.1 ∈ tb := memW 170 (by decide +kernel) (by decide)
theorem fl_X7_143 : FL RX7 143 1 6 0 := ⟨_, _, _, _, cf1, by decide, wl_X7_143, rfl⟩
theorem fp_X7_143 : FP RX7 143 1 6 0 := ⟨_, _, _, _, cf1, by decide, wl_X7_143, rfl, rfl, rfl⟩
theorem wl_X6_113 : Cond.fieldLink RX6 113 (TX1 6).1 (TX1 6).2.1 (TX1 6).2.2.1 ∈ tb := memW 171 (by decide +kernel) (by decide)
theorem fl_X6_113 : FL RX6 113 1 6 0 := ⟨_, _, _, _, cf1, by decide, wl_X6_113, rfl⟩
theorem fp_X6_113 : FP RX6 113 1 6 0 := ⟨_, _, _, _, cf1, by decide, wl_X6_113, rfl, rfl, rfl⟩
theorem wl_X1_29 : Cond.fieldLink RX1 29 (TX1 7).1 (TX1 7).2.1 (TX1 7).2.2.1 ∈ tb := memW 172 (by decide +kernel) (by decide)
theorem fl_X1_29 : FL RX1 29 1 7 0 := ⟨_, _, _, _, cf1, by decide, wl_X1_29, rfl⟩
theorem fp_X1_29 : FP RX1 29 1 7 0 := ⟨_, _, _, _, cf1, by decide, wl_X1_29, rfl, rfl, rfl⟩
theorem wl_X7_110 : Cond.fieldLink RX7 110 (TX1 7).1 (TX1 7).2.1 (TX1 7).2.2.1 ∈ tb := memW 173 (by decide +kernel) (by decide)
theorem fl_X7_110 : FL RX7 110 1 7 0 := ⟨_, _, _, _, cf1, by decide, wl_X7_110, rfl⟩
theorem fp_X7_110 : FP RX7 110 1 7 0 := ⟨_, _, _, _, cf1, by decide, wl_X7_110, rfl, rfl, rfl⟩
theorem wl_X3_61 : Cond.fieldLink RX3 61 (TX1 7).1 (TX1 7).2.1 (TX1 7).2.2.1 ∈ tb := memW 174 (by decide +kernel) (by decide)
theorem fl_X3_61 : FL RX3 61 1 7 0 := ⟨_, _, _, _, cf1, by decide, wl_X3_61, rfl⟩
theorem fp_X3_61 : FP RX3 61 1 7 0 := ⟨_, _, _, _, cf1, by decide, wl_X3_61, rfl, rfl, rfl⟩
theorem wl_X6_47 : Cond.fieldLink RX6 47 (TX1 8).1 (TX1 8).2.1 (TX1 8).2.2.1 ∈ tb := memW 175 (by decide +kernel) (by decide)
theorem fl_X6_47 : FL RX6 47 1 8 2 := ⟨_, _, _, _, cf1, by decide, wl_X6_47, rfl⟩
theorem fp_X6_47 : FP RX6 47 1 8 2 := ⟨_, _, _, _, cf1, by decide, wl_X6_47, rfl, rfl, rfl⟩
theorem wl_X6_58 : Cond.fieldLink RX6 58 (TX1 9).1 (TX1 9).2.1 (TX1 9).2.2.1 ∈ tb := memW 176 (by decide +kernel) (by decide)
theorem fl_X6_58 : FL RX6 58 1 9 2 := ⟨_, _, _, _, cf1, by decide, wl_X6_58, rfl⟩
theorem fp_X6_58 : FP RX6 58 1 9 2 := ⟨_, _, _, _, cf1, by decide, wl_X6_58, rfl, rfl, rfl⟩
theorem wl_X6_55 : Cond.fieldLink RX6 55 (TX1 10).1 (TX1 10).2.1 (TX1 10).2.2.1 ∈ tb := memW 177 (by decide +kernel) (by decide)
theorem fl_X6_55 : FL RX6 55 1 10 0 := ⟨_, _, _, _, cf1, by decide, wl_X6_55, rfl⟩
theorem fp_X6_55 : FP RX6 55 1 10 0 := ⟨_, _, _, _, cf1, by decide, wl_X6_55, rfl, rfl, rfl⟩
theorem wl_X5_29 : Cond.fieldLink RX5 29 (TX1 11).1 (TX1 11).2.1 (TX1 11).2.2.1 ∈ tb := memW 178 (by decide +kernel) (by decide)
theorem fl_X5_29 : FL RX5 29 1 11 0 := ⟨_, _, _, _, cf1, by decide, wl_X5_29, rfl⟩
theorem fp_X5_29 : FZ RX5 29 1 11 := ⟨_, _, _, _, cf1, by decide, wl_X5_29, rfl, rfl⟩
theorem wl_X5_35 : Cond.fieldLink RX5 35 (TX1 12).1 (TX1 12).2.1 (TX1 12).2.2.1 ∈ tb := memW 179 (by decide +kernel) (by decide)
theorem fl_X5_35 : FL RX5 35 1 12 0 := ⟨_, _, _, _, cf1, by decide, wl_X5_35, rfl⟩
theorem fp_X5_35 : FP RX5 35 1 12 0 := ⟨_, _, _, _, cf1, by decide, wl_X5_35, rfl, rfl, rfl⟩
theorem wl_X5_38 : Cond.fieldLink RX5 38 (TX1 13).1 (TX1 13).2.1 (TX1 13).2.2.1 ∈ tb := memW 180 (by decide +kernel) (by decide)
theorem fl_X5_38 : FL RX5 38 1 13 0 := ⟨_, _, _, _, cf1, by decide, wl_X5_38, rfl⟩
theorem fp_X5_38 : FP RX5 38 1 13 0 := ⟨_, _, _, _, cf1, by decide, wl_X5_38, rfl, rfl, rfl⟩
theorem wl_X5_41 : Cond.fieldLink RX5 41 (TX1 14).1 (TX1 14).2.1 (TX1 14).2.2.1 ∈ tb := memW 181 (by decide +kernel) (by decide)
theorem fl_X5_41 : FL RX5 41 1 14 1 := ⟨_, _, _, _, cf1, by decide, wl_X5_41, rfl⟩
theorem fp_X5_41 : FP RX5 41 1 14 1 := ⟨_, _, _, _, cf1, by decide, wl_X5_41, rfl, rfl, rfl⟩
theorem wl_X5_45 : Cond.fieldLink RX5 45 (TX1 15).1 (TX1 15).2.1 (TX1 15).2.2.1 ∈ tb := memW 182 (by decide +kernel) (by decide)
theorem fl_X5_45 : FL RX5 45 1 15 0 := ⟨_, _, _, _, cf1, by decide, wl_X5_45, rfl⟩
theorem fp_X5_45 : FZ RX5 45 1 15 := ⟨_, _, _, _, cf1, by decide, wl_X5_45, rfl, rfl⟩
theorem wl_X3_11 : Cond.fieldLink RX3 11 (TX3 0).1 (TX3 0).2.1 (TX3 0).2.2.1 ∈ tb := memW 217 (by decide +kernel) (by decide)
theorem fl_X3_11 : FL RX3 11 3 0 2 := ⟨_, _, _, _, cf3, by decide, wl_X3_11, rfl⟩
theorem fp_X3_11 : FF RX3 11 3 0 2 := ⟨_, _, _, _, cf3, by decide, wl_X3_11, rfl, rfl, rfl, rfl⟩
theorem wl_X5_25 : Cond.fieldLink RX5 25 (TX3 0).1 (TX3 0).2.1 (TX3 0).2.2.1 ∈ tb := memW 218 (by decide +kernel) (by decide)
theorem fl_X5_25 : FL RX5 25 3 0 2 := ⟨_, _, _, _, cf3, by decide, wl_X5_25, rfl⟩
theorem wl_X3_17 : Cond.fieldLink RX3 17 (TX3 1).1 (TX3 1).2.1 (TX3 1).2.2.1 ∈ tb := memW 219 (by decide +kernel) (by decide)
theorem fl_X3_17 : FL RX3 17 3 1 2 := ⟨_, _, _, _, cf3, by decide, wl_X3_17, rfl⟩
theorem fp_X3_17 : FF RX3 17 3 1 2 := ⟨_, _, _, _, cf3, by decide, wl_X3_17, rfl, rfl, rfl, rfl⟩
theorem wl_X7_96 : Cond.fieldLink RX7 96 (TX3 1).1 (TX3 1).2.1 (TX3 1).2.2.1 ∈ tb := memW 220 (by decide +kernel) (by decide)
theorem fl_X7_96 : FL RX7 96 3 1 2 := ⟨_, _, _, _, cf3, by decide, wl_X7_96, rfl⟩
theorem wl_X3_21 : Cond.fieldLink RX3 21 (TX3 2).1 (TX3 2).2.1 (TX3 2).2.2.1 ∈ tb := memW 221 (by decide +kernel) (by decide)
theorem fl_X3_21 : FL RX3 21 3 2 0 := ⟨_, _, _, _, cf3, by decide, wl_X3_21, rfl⟩
theorem fp_X3_21 : FP RX3 21 3 2 0 := ⟨_, _, _, _, cf3, by decide, wl_X3_21, rfl, rfl, rfl⟩
theorem wl_X5_19 : Cond.fieldLink RX5 19 (TX3 2).1 (TX3 2).2.1 (TX3 2).2.2.1 ∈ tb := memW 222 (by decide +kernel) (by decide)
theorem fl_X5_19 : FL RX5 19 3 2 0 := ⟨_, _, _, _, cf3, by decide, wl_X5_19, rfl⟩
theorem fp_X5_19 : FP RX5 19 3 2 0 := ⟨_, _, _, _, cf3, by decide, wl_X5_19, rfl, rfl, rfl⟩
theorem wl_X7_61 : Cond.fieldLink RX7 61 (TX3 2).1 (TX3 2).2.1 (TX3 2).2.2.1 ∈ tb := memW 223 (by decide +kernel) (by decide)
theorem fl_X7_61 : FL RX7 61 3 2 0 := ⟨_, _, _, _, cf3, by decide, wl_X7_61, rfl⟩
theorem fp_X7_61 : FP RX7 61 3 2 0 := ⟨_, _, _, _, cf3, by decide, wl_X7_61, rfl, rfl, rfl⟩
theorem wl_X3_25 : Cond.fieldLink RX3 25 (TX3 3).1 (TX3 3).2.1 (TX3 3).2.2.1 ∈ tb := memW 224 (by decide +kernel) (by decide)
theorem fl_X3_25 : FL RX3 25 3 3 0 := ⟨_, _, _, _, cf3, by decide, wl_X3_25, rfl⟩
theorem fp_X3_25 : FP RX3 25 3 3 0 := ⟨_, _, _, _, cf3, by decide, wl_X3_25, rfl, rfl, rfl⟩
theorem wl_X7_146 : Cond.fieldLink RX7 146 (TX3 3).1 (TX3 3).2.1 (TX3 3).2.2.1 ∈ tb := memW 225 (by decide +kernel) (by decide)
theorem fl_X7_146 : FL RX7 146 3 3 0 := ⟨_, _, _, _, cf3, by decide, wl_X7_146, rfl⟩
theorem fp_X7_146 : FP RX7 146 3 3 0 := ⟨_, _, _, _, cf3, by decide, wl_X7_146, rfl, rfl, rfl⟩
theorem wl_X3_28 : Cond.fieldLink RX3 28 (TX3 4).1 (TX3 4).2.1 (TX3 4).2.2.1 ∈ tb := memW 226 (by decide +kernel) (by decide)
theorem fl_X3_28 : FL RX3 28 3 4 0 := ⟨_, _, _, _, cf3, by decide, wl_X3_28, rfl⟩
theorem fp_X3_28 : FP RX3 28 3 4 0 := ⟨_, _, _, _, cf3, by decide, wl_X3_28, rfl, rfl, rfl⟩
theorem wl_X7_107 : Cond.fieldLink RX7 107 (TX3 4).1 (TX3 4).2.1 (TX3 4).2.2.1 ∈ tb := memW 227 (by decide +kernel) (by decide)
theorem fl_X7_107 : FL RX7 107 3 4 0 := ⟨_, _, _, _, cf3, by decide, wl_X7_107, rfl⟩
theorem fp_X7_107 : FP RX7 107 3 4 0 := ⟨_, _, _, _, cf3, by decide, wl_X7_107, rfl, rfl, rfl⟩
theorem wl_X6_13 : Cond.fieldLink RX6 13 (TX6 0).1 (TX6 0).2.1 (TX6 0).2.2.1 ∈ tb := memW 245 (by decide +kernel) (by decide)
theorem fl_X6_13 : FL RX6 13 6 0 2 := ⟨_, _, _, _, cf6, by decide, wl_X6_13, rfl⟩
theorem fp_X6_13 : FF RX6 13 6 0 2 := ⟨_, _, _, _, cf6, by decide, wl_X6_13, rfl, rfl, rfl, rfl⟩
theorem wl_X6_17 : Cond.fieldLink RX6 17 (TX6 1).1 (TX6 1).2.1 (TX6 1).2.2.1 ∈ tb := memW 246 (by decide +kernel) (by decide)
theorem fl_X6_17 : FL RX6 17 6 1 2 := ⟨_, _, _, _, cf6, by decide, wl_X6_17, rfl⟩
theorem fp_X6_17 : FF RX6 17 6 1 2 := ⟨_, _, _, _, cf6, by decide, wl_X6_17, rfl, rfl, rfl, rfl⟩
theorem wl_X6_7 : Cond.fieldLink RX6 7 (TX6 2).1 (TX6 2).2.1 (TX6 2).2.2.1 ∈ tb := memW 247 (by decide +kernel) (by decide)
theorem fl_X6_7 : FL RX6 7 6 2 0 := ⟨_, _, _, _, cf6, by decide, wl_X6_7, rfl⟩
theorem fp_X6_7 : FP RX6 7 6 2 0 := ⟨_, _, _, _, cf6, by decide, wl_X6_7, rfl, rfl, rfl⟩
theorem wl_X6_35 : Cond.fieldLink RX6 35 (TX6 3).1 (TX6 3).2.1 (TX6 3).2.2.1 ∈ tb := memW 248 (by decide +kernel) (by decide)
theorem fl_X6_35 : FL RX6 35 6 3 0 := ⟨_, _, _, _, cf6, by decide, wl_X6_35, rfl⟩
theorem fp_X6_35 : FP RX6 35 6 3 0 := ⟨_, _, _, _, cf6, by decide, wl_X6_35, rfl, rfl, rfl⟩
theorem wl_X5_9 : Cond.fieldLink RX5 9 (TX5 0).1 (TX5 0).2.1 (TX5 0).2.2.1 ∈ tb := memW 264 (by decide +kernel) (by decide)
theorem fl_X5_9 : FL RX5 9 5 0 2 := ⟨_, _, _, _, cf5, by decide, wl_X5_9, rfl⟩
theorem fp_X5_9 : FF RX5 9 5 0 2 := ⟨_, _, _, _, cf5, by decide, wl_X5_9, rfl, rfl, rfl, rfl⟩
theorem wl_X5_15 : Cond.fieldLink RX5 15 (TX5 1).1 (TX5 1).2.1 (TX5 1).2.2.1 ∈ tb := memW 265 (by decide +kernel) (by decide)
theorem fl_X5_15 : FL RX5 15 5 1 2 := ⟨_, _, _, _, cf5, by decide, wl_X5_15, rfl⟩
theorem fp_X5_15 : FF RX5 15 5 1 2 := ⟨_, _, _, _, cf5, by decide, wl_X5_15, rfl, rfl, rfl, rfl⟩
theorem wl_X2_9 : Cond.fieldLink RX2 9 (TX2 0).1 (TX2 0).2.1 (TX2 0).2.2.1 ∈ tb := memW 277 (by decide +kernel) (by decide)
theorem fl_X2_9 : FL RX2 9 2 0 2 := ⟨_, _, _, _, cf2, by decide, wl_X2_9, rfl⟩
theorem fp_X2_9 : FF RX2 9 2 0 2 := ⟨_, _, _, _, cf2, by decide, wl_X2_9, rfl, rfl, rfl, rfl⟩
theorem wl_X2_15 : Cond.fieldLink RX2 15 (TX2 1).1 (TX2 1).2.1 (TX2 1).2.2.1 ∈ tb := memW 278 (by decide +kernel) (by decide)
theorem fl_X2_15 : FL RX2 15 2 1 2 := ⟨_, _, _, _, cf2, by decide, wl_X2_15, rfl⟩
theorem fp_X2_15 : FF RX2 15 2 1 2 := ⟨_, _, _, _, cf2, by decide, wl_X2_15, rfl, rfl, rfl, rfl⟩
theorem wl_X7_237 : Cond.fieldLink RX7 237 (TX2 1).1 (TX2 1).2.1 (TX2 1).2.2.1 ∈ tb := memW 279 (by decide +kernel) (by decide)
theorem fl_X7_237 : FL RX7 237 2 1 2 := ⟨_, _, _, _, cf2, by decide, wl_X7_237, rfl⟩
theorem wl_X2_18 : Cond.fieldLink RX2 18 (TX2 2).1 (TX2 2).2.1 (TX2 2).2.2.1 ∈ tb := memW 280 (by decide +kernel) (by decide)
theorem fl_X2_18 : FL RX2 18 2 2 2 := ⟨_, _, _, _, cf2, by decide, wl_X2_18, rfl⟩
theorem fp_X2_18 : FF RX2 18 2 2 2 := ⟨_, _, _, _, cf2, by decide, wl_X2_18, rfl, rfl, rfl, rfl⟩
theorem wl_X7_240 : Cond.fieldLink RX7 240 (TX2 2).1 (TX2 2).2.1 (TX2 2).2.2.1 ∈ tb := memW 281 (by decide +kernel) (by decide)
theorem fl_X7_240 : FL RX7 240 2 2 2 := ⟨_, _, _, _, cf2, by decide, wl_X7_240, rfl⟩
theorem wl_X2_21 : Cond.fieldLink RX2 21 (TX2 3).1 (TX2 3).2.1 (TX2 3).2.2.1 ∈ tb := memW 282 (by decide +kernel) (by decide)
theorem fl_X2_21 : FL RX2 21 2 3 2 := ⟨_, _, _, _, cf2, by decide, wl_X2_21, rfl⟩
theorem fp_X2_21 : FF RX2 21 2 3 2 := ⟨_, _, _, _, cf2, by decide, wl_X2_21, rfl, rfl, rfl, rfl⟩
theorem wl_X7_243 : Cond.fieldLink RX7 243 (TX2 3).1 (TX2 3).2.1 (TX2 3).2.2.1 ∈ tb := memW 283 (by decide +kernel) (by decide)
theorem fl_X7_243 : FL RX7 243 2 3 2 := ⟨_, _, _, _, cf2, by decide, wl_X7_243, rfl⟩
theorem wl_X2_24 : Cond.fieldLink RX2 24 (TX2 4).1 (TX2 4).2.1 (TX2 4).2.2.1 ∈ tb := memW 284 (by decide +kernel) (by decide)
theorem fl_X2_24 : FL RX2 24 2 4 2 := ⟨_, _, _, _, cf2, by decide, wl_X2_24, rfl⟩
theorem fp_X2_24 : FF RX2 24 2 4 2 := ⟨_, _, _, _, cf2, by decide, wl_X2_24, rfl, rfl, rfl, rfl⟩
theorem wl_X7_246 : Cond.fieldLink RX7 246 (TX2 4).1 (TX2 4).2.1 (TX2 4).2.2.1 ∈ tb := memW 285 (by decide +kernel) (by decide)
theorem fl_X7_246 : FL RX7 246 2 4 2 := ⟨_, _, _, _, cf2, by decide, wl_X7_246, rfl⟩
theorem wl_X2_27 : Cond.fieldLink RX2 27 (TX2 5).1 (TX2 5).2.1 (TX2 5).2.2.1 ∈ tb := memW 286 (by decide +kernel) (by decide)
theorem fl_X2_27 : FL RX2 27 2 5 0 := ⟨_, _, _, _, cf2, by decide, wl_X2_27, rfl⟩
theorem fp_X2_27 : FZ RX2 27 2 5 := ⟨_, _, _, _, cf2, by decide, wl_X2_27, rfl, rfl⟩
theorem wl_X7_57 : Cond.fieldLink RX7 57 (TX2 5).1 (TX2 5).2.1 (TX2 5).2.2.1 ∈ tb := memW 287 (by decide +kernel) (by decide)
theorem fl_X7_57 : FL RX7 57 2 5 0 := ⟨_, _, _, _, cf2, by decide, wl_X7_57, rfl⟩
theorem fp_X7_57 : FZ RX7 57 2 5 := ⟨_, _, _, _, cf2, by decide, wl_X7_57, rfl, rfl⟩
theorem wl_X2_31 : Cond.fieldLink RX2 31 (TX2 6).1 (TX2 6).2.1 (TX2 6).2.2.1 ∈ tb := memW 288 (by decide +kernel) (by decide)
theorem fl_X2_31 : FL RX2 31 2 6 0 := ⟨_, _, _, _, cf2, by decide, wl_X2_31, rfl⟩
theorem fp_X2_31 : FP RX2 31 2 6 0 := ⟨_, _, _, _, cf2, by decide, wl_X2_31, rfl, rfl, rfl⟩
theorem wl_X7_234 : Cond.fieldLink RX7 234 (TX2 6).1 (TX2 6).2.1 (TX2 6).2.2.1 ∈ tb := memW 289 (by decide +kernel) (by decide)
theorem fl_X7_234 : FL RX7 234 2 6 0 := ⟨_, _, _, _, cf2, by decide, wl_X7_234, rfl⟩
theorem fp_X7_234 : FP RX7 234 2 6 0 := ⟨_, _, _, _, cf2, by decide, wl_X7_234, rfl, rfl, rfl⟩
theorem wl_X2_35 : Cond.fieldLink RX2 35 (TX2 7).1 (TX2 7).2.1 (TX2 7).2.2.1 ∈ tb := memW 290 (by decide +kernel) (by decide)
theorem fl_X2_35 : FL RX2 35 2 7 2 := ⟨_, _, _, _, cf2, by decide, wl_X2_35, rfl⟩
theorem fp_X2_35 : FP RX2 35 2 7 2 := ⟨_, _, _, _, cf2, by decide, wl_X2_35, rfl, rfl, rfl⟩
theorem wl_X7_228 : Cond.fieldLink RX7 228 (TX2 7).1 (TX2 7).2.1 (TX2 7).2.2.1 ∈ tb := memW 291 (by decide +kernel) (by decide)
theorem fl_X7_228 : FL RX7 228 2 7 2 := ⟨_, _, _, _, cf2, by decide, wl_X7_228, rfl⟩
theorem fp_X7_228 : FP RX7 228 2 7 2 := ⟨_, _, _, _, cf2, by decide, wl_X7_228, rfl, rfl, rfl⟩
theorem wl_X7_10 : Cond.fieldLink RX7 10 (TX7 0).1 (TX7 0).2.1 (TX7 0).2.2.1 ∈ tb := memW 309 (by decide +kernel) (by decide)
theorem fl_X7_10 : FL RX7 10 7 0 2 := ⟨_, _, _, _, cf7, by decide, wl_X7_10, rfl⟩
theorem fp_X7_10 : FF RX7 10 7 0 2 := ⟨_, _, _, _, cf7, by decide, wl_X7_10, rfl, rfl, rfl, rfl⟩
theorem wl_X7_19 : Cond.fieldLink RX7 19 (TX7 1).1 (TX7 1).2.1 (TX7 1).2.2.1 ∈ tb := memW 310 (by decide +kernel) (by decide)
theorem fl_X7_19 : FL RX7 19 7 1 2 := ⟨_, _, _, _, cf7, by decide, wl_X7_19, rfl⟩
theorem fp_X7_19 : FF RX7 19 7 1 2 := ⟨_, _, _, _, cf7, by decide, wl_X7_19, rfl, rfl, rfl, rfl⟩
theorem wl_X7_28 : Cond.fieldLink RX7 28 (TX7 2).1 (TX7 2).2.1 (TX7 2).2.2.1 ∈ tb := memW 311 (by decide +kernel) (by decide)
theorem fl_X7_28 : FL RX7 28 7 2 2 := ⟨_, _, _, _, cf7, by decide, wl_X7_28, rfl⟩
theorem fp_X7_28 : FF RX7 28 7 2 2 := ⟨_, _, _, _, cf7, by decide, wl_X7_28, rfl, rfl, rfl, rfl⟩
theorem wl_X7_35 : Cond.fieldLink RX7 35 (TX7 3).1 (TX7 3).2.1 (TX7 3).2.2.1 ∈ tb := memW 312 (by decide +kernel) (by decide)
theorem fl_X7_35 : FL RX7 35 7 3 2 := ⟨_, _, _, _, cf7, by decide, wl_X7_35, rfl⟩
theorem fp_X7_35 : FF RX7 35 7 3 2 := ⟨_, _, _, _, cf7, by decide, wl_X7_35, rfl, rfl, rfl, rfl⟩
theorem wl_X7_42 : Cond.fieldLink RX7 42 (TX7 4).1 (TX7 4).2.1 (TX7 4).2.2.1 ∈ tb := memW 313 (by decide +kernel) (by decide)
theorem fl_X7_42 : FL RX7 42 7 4 2 := ⟨_, _, _, _, cf7, by decide, wl_X7_42, rfl⟩
theorem fp_X7_42 : FF RX7 42 7 4 2 := ⟨_, _, _, _, cf7, by decide, wl_X7_42, rfl, rfl, rfl, rfl⟩
theorem wl_X8_119 : Cond.fieldLink RX8 119 (TX8 1).1 (TX8 1).2.1 (TX8 1).2.2.1 ∈ tb := memW 698 (by decide +kernel) (by decide)
theorem fl_X8_119 : FL RX8 119 8 1 0 := ⟨_, _, _, _, cf8, by decide, wl_X8_119, rfl⟩
theorem fp_X8_119 : FP RX8 119 8 1 0 := ⟨_, _, _, _, cf8, by decide, wl_X8_119, rfl, rfl, rfl⟩
theorem wl_X8_13 : Cond.fieldLink RX8 13 (TX8 2).1 (TX8 2).2.1 (TX8 2).2.2.1 ∈ tb := memW 699 (by decide +kernel) (by decide)
theorem fl_X8_13 : FL RX8 13 8 2 2 := ⟨_, _, _, _, cf8, by decide, wl_X8_13, rfl⟩
theorem fp_X8_13 : FF RX8 13 8 2 2 := ⟨_, _, _, _, cf8, by decide, wl_X8_13, rfl, rfl, rfl, rfl⟩
theorem wl_X8_17 : Cond.fieldLink RX8 17 (TX8 3).1 (TX8 3).2.1 (TX8 3).2.2.1 ∈ tb := memW 700 (by decide +kernel) (by decide)
theorem fl_X8_17 : FL RX8 17 8 3 2 := ⟨_, _, _, _, cf8, by decide, wl_X8_17, rfl⟩
theorem fp_X8_17 : FF RX8 17 8 3 2 := ⟨_, _, _, _, cf8, by decide, wl_X8_17, rfl, rfl, rfl, rfl⟩
theorem wl_X8_20 : Cond.fieldLink RX8 20 (TX8 4).1 (TX8 4).2.1 (TX8 4).2.2.1 ∈ tb := memW 701 (by decide +kernel) (by decide)
theorem fl_X8_20 : FL RX8 20 8 4 2 := ⟨_, _, _, _, cf8, by decide, wl_X8_20, rfl⟩
theorem fp_X8_20 : FF RX8 20 8 4 2 := ⟨_, _, _, _, cf8, by decide, wl_X8_20, rfl, rfl, rfl, rfl⟩
theorem wl_X8_23 : Cond.fieldLink RX8 23 (TX8 5).1 (TX8 5).2.1 (TX8 5).2.2.1 ∈ tb := memW 702 (by decide +kernel) (by decide)
theorem fl_X8_23 : FL RX8 23 8 5 2 := ⟨_, _, _, _, cf8, by decide, wl_X8_23, rfl⟩
theorem fp_X8_23 : FF RX8 23 8 5 2 := ⟨_, _, _, _, cf8, by decide, wl_X8_23, rfl, rfl, rfl, rfl⟩
theorem wl_X8_26 : Cond.fieldLink RX8 26 (TX8 6).1 (TX8 6).2.1 (TX8 6).2.2.1 ∈ tb := memW 703 (by decide +kernel) (by decide)
theorem fl_X8_26 : FL RX8 26 8 6 2 := ⟨_, _, _, _, cf8, by decide, wl_X8_26, rfl⟩
theorem fp_X8_26 : FF RX8 26 8 6 2 := ⟨_, _, _, _, cf8, by decide, wl_X8_26, rfl, rfl, rfl, rfl⟩
theorem wl_X8_29 : Cond.fieldLink RX8 29 (TX8 7).1 (TX8 7).2.1 (TX8 7).2.2.1 ∈ tb := memW 704 (by decide +kernel) (by decide)
theorem fl_X8_29 : FL RX8 29 8 7 2 := ⟨_, _, _, _, cf8, by decide, wl_X8_29, rfl⟩
theorem fp_X8_29 : FF RX8 29 8 7 2 := ⟨_, _, _, _, cf8, by decide, wl_X8_29, rfl, rfl, rfl, rfl⟩
theorem wl_X8_32 : Cond.fieldLink RX8 32 (TX8 8).1 (TX8 8).2.1 (TX8 8).2.2.1 ∈ tb := memW 705 (by decide +kernel) (by decide)
theorem fl_X8_32 : FL RX8 32 8 8 0 := ⟨_, _, _, _, cf8, by decide, wl_X8_32, rfl⟩
theorem fp_X8_32 : FP RX8 32 8 8 0 := ⟨_, _, _, _, cf8, by decide, wl_X8_32, rfl, rfl, rfl⟩
theorem wl_X8_35 : Cond.fieldLink RX8 35 (TX8 9).1 (TX8 9).2.1 (TX8 9).2.2.1 ∈ tb := memW 706 (by decide +kernel) (by decide)
theorem fl_X8_35 : FL RX8 35 8 9 0 := ⟨_, _, _, _, cf8, by decide, wl_X8_35, rfl⟩
theorem fp_X8_35 : FP RX8 35 8 9 0 := ⟨_, _, _, _, cf8, by decide, wl_X8_35, rfl, rfl, rfl⟩
theorem wl_X8_38 : Cond.fieldLink RX8 38 (TX8 10).1 (TX8 10).2.1 (TX8 10).2.2.1 ∈ tb := memW 707 (by decide +kernel) (by decide)
theorem fl_X8_38 : FL RX8 38 8 10 2 := ⟨_, _, _, _, cf8, by decide, wl_X8_38, rfl⟩
theorem fp_X8_38 : FF RX8 38 8 10 2 := ⟨_, _, _, _, cf8, by decide, wl_X8_38, rfl, rfl, rfl, rfl⟩
theorem wl_X8_41 : Cond.fieldLink RX8 41 (TX8 11).1 (TX8 11).2.1 (TX8 11).2.2.1 ∈ tb := memW 708 (by decide +kernel) (by decide)
theorem fl_X8_41 : FL RX8 41 8 11 0 := ⟨_, _, _, _, cf8, by decide, wl_X8_41, rfl⟩
theorem fp_X8_41 : FP RX8 41 8 11 0 := ⟨_, _, _, _, cf8, by decide, wl_X8_41, rfl, rfl, rfl⟩
theorem wl_X8_44 : Cond.fieldLink RX8 44 (TX8 12).1 (TX8 12).2.1 (TX8 12).2.2.1 ∈ tb := memW 709 (by decide +kernel) (by decide)
theorem fl_X8_44 : FL RX8 44 8 12 2 := ⟨_, _, _, _, cf8, by decide, wl_X8_44, rfl⟩
theorem fp_X8_44 : FF RX8 44 8 12 2 := ⟨_, _, _, _, cf8, by decide, wl_X8_44, rfl, rfl, rfl, rfl⟩
theorem wl_X8_47 : Cond.fieldLink RX8 47 (TX8 13).1 (TX8 13).2.1 (TX8 13).2.2.1 ∈ tb := memW 710 (by decide +kernel) (by decide)
theorem fl_X8_47 : FL RX8 47 8 13 2 := ⟨_, _, _, _, cf8, by decide, wl_X8_47, rfl⟩
theorem fp_X8_47 : FF RX8 47 8 13 2 := ⟨_, _, _, _, cf8, by decide, wl_X8_47, rfl, rfl, rfl, rfl⟩
theorem wl_X8_50 : Cond.fieldLink RX8 50 (TX8 14).1 (TX8 14).2.1 (TX8 14).2.2.1 ∈ tb := memW 711 (by decide +kernel) (by decide)
theorem fl_X8_50 : FL RX8 50 8 14 2 := ⟨_, _, _, _, cf8, by decide, wl_X8_50, rfl⟩
theorem fp_X8_50 : FF RX8 50 8 14 2 := ⟨_, _, _, _, cf8, by decide, wl_X8_50, rfl, rfl, rfl, rfl⟩
theorem wl_X8_53 : Cond.fieldLink RX8 53 (TX8 15).1 (TX8 15).2.1 (TX8 15).2.2.1 ∈ tb := memW 712 (by decide +kernel) (by decide)
theorem fl_X8_53 : FL RX8 53 8 15 2 := ⟨_, _, _, _, cf8, by decide, wl_X8_53, rfl⟩
theorem fp_X8_53 : FF RX8 53 8 15 2 := ⟨_, _, _, _, cf8, by decide, wl_X8_53, rfl, rfl, rfl, rfl⟩
theorem wl_X8_56 : Cond.fieldLink RX8 56 (TX8 16).1 (TX8 16).2.1 (TX8 16).2.2.1 ∈ tb := memW 713 (by decide +kernel) (by decide)
theorem fl_X8_56 : FL RX8 56 8 16 2 := ⟨_, _, _, _, cf8, by decide, wl_X8_56, rfl⟩
theorem fp_X8_56 : FF RX8 56 8 16 2 := ⟨_, _, _, _, cf8, by decide, wl_X8_56, rfl, rfl, rfl, rfl⟩
theorem wl_X8_59 : Cond.fieldLink RX8 59 (TX8 17).1 (TX8 17).2.1 (TX8 17).2.2.1 ∈ tb := memW 714 (by decide +kernel) (by decide)
theorem fl_X8_59 : FL RX8 59 8 17 2 := ⟨_, _, _, _, cf8, by decide, wl_X8_59, rfl⟩
theorem fp_X8_59 : FF RX8 59 8 17 2 := ⟨_, _, _, _, cf8, by decide, wl_X8_59, rfl, rfl, rfl, rfl⟩
theorem wl_X8_158 : Cond.fieldLink RX8 158 (TX8 18).1 (TX8 18).2.1 (TX8 18).2.2.1 ∈ tb := memW 715 (by decide +kernel) (by decide)
theorem fl_X8_158 : FL RX8 158 8 18 0 := ⟨_, _, _, _, cf8, by decide, wl_X8_158, rfl⟩
theorem fp_X8_158 : FP RX8 158 8 18 0 := ⟨_, _, _, _, cf8, by decide, wl_X8_158, rfl, rfl, rfl⟩
theorem wl_X8_130 : Cond.fieldLink RX8 130 (TX8 19).1 (TX8 19).2.1 (TX8 19).2.2.1 ∈ tb := memW 716 (by decide +kernel) (by decide)
theorem fl_X8_130 : FL RX8 130 8 19 0 := ⟨_, _, _, _, cf8, by decide, wl_X8_130, rfl⟩
theorem fp_X8_130 : FZ RX8 130 8 19 := ⟨_, _, _, _, cf8, by decide, wl_X8_130, rfl, rfl⟩
theorem wl_X8_63 : Cond.fieldLink RX8 63 (TX8 20).1 (TX8 20).2.1 (TX8 20).2.2.1 ∈ tb := memW 717 (by decide +kernel) (by decide)
theorem fl_X8_63 : FL RX8 63 8 20 2 := ⟨_, _, _, _, cf8, by decide, wl_X8_63, rfl⟩
theorem fp_X8_63 : FF RX8 63 8 20 2 := ⟨_, _, _, _, cf8, by decide, wl_X8_63, rfl, rfl, rfl, rfl⟩
theorem wl_X8_67 : Cond.fieldLink RX8 67 (TX8 21).1 (TX8 21).2.1 (TX8 21).2.2.1 ∈ tb := memW 718 (by decide +kernel) (by decide)
theorem fl_X8_67 : FL RX8 67 8 21 2 := ⟨_, _, _, _, cf8, by decide, wl_X8_67, rfl⟩
theorem fp_X8_67 : FF RX8 67 8 21 2 := ⟨_, _, _, _, cf8, by decide, wl_X8_67, rfl, rfl, rfl, rfl⟩
theorem wl_X8_70 : Cond.fieldLink RX8 70 (TX8 22).1 (TX8 22).2.1 (TX8 22).2.2.1 ∈ tb := memW 719 (by decide +kernel) (by decide)
theorem fl_X8_70 : FL RX8 70 8 22 2 := ⟨_, _, _, _, cf8, by decide, wl_X8_70, rfl⟩
theorem fp_X8_70 : FF RX8 70 8 22 2 := ⟨_, _, _, _, cf8, by decide, wl_X8_70, rfl, rfl, rfl, rfl⟩
theorem wl_X8_74 : Cond.fieldLink RX8 74 (TX8 23).1 (TX8 23).2.1 (TX8 23).2.2.1 ∈ tb := memW 720 (by decide +kernel) (by decide)
theorem fl_X8_74 : FL RX8 74 8 23 2 := ⟨_, _, _, _, cf8, by decide, wl_X8_74, rfl⟩
theorem fp_X8_74 : FF RX8 74 8 23 2 := ⟨_, _, _, _, cf8, by decide, wl_X8_74, rfl, rfl, rfl, rfl⟩
theorem wl_X8_77 : Cond.fieldLink RX8 77 (TX8 24).1 (TX8 24).2.1 (TX8 24).2.2.1 ∈ tb := memW 721 (by decide +kernel) (by decide)
theorem fl_X8_77 : FL RX8 77 8 24 2 := ⟨_, _, _, _, cf8, by decide, wl_X8_77, rfl⟩
theorem fp_X8_77 : FF RX8 77 8 24 2 := ⟨_, _, _, _, cf8, by decide, wl_X8_77, rfl, rfl, rfl, rfl⟩
theorem wl_X8_80 : Cond.fieldLink RX8 80 (TX8 25).1 (TX8 25).2.1 (TX8 25).2.2.1 ∈ tb := memW 722 (by decide +kernel) (by decide)
theorem fl_X8_80 : FL RX8 80 8 25 2 := ⟨_, _, _, _, cf8, by decide, wl_X8_80, rfl⟩
theorem fp_X8_80 : FF RX8 80 8 25 2 := ⟨_, _, _, _, cf8, by decide, wl_X8_80, rfl, rfl, rfl, rfl⟩
theorem wl_X8_83 : Cond.fieldLink RX8 83 (TX8 26).1 (TX8 26).2.1 (TX8 26).2.2.1 ∈ tb := memW 723 (by decide +kernel) (by decide)
theorem fl_X8_83 : FL RX8 83 8 26 2 := ⟨_, _, _, _, cf8, by decide, wl_X8_83, rfl⟩
theorem fp_X8_83 : FF RX8 83 8 26 2 := ⟨_, _, _, _, cf8, by decide, wl_X8_83, rfl, rfl, rfl, rfl⟩
theorem wl_X8_86 : Cond.fieldLink RX8 86 (TX8 27).1 (TX8 27).2.1 (TX8 27).2.2.1 ∈ tb := memW 724 (by decide +kernel) (by decide)
theorem fl_X8_86 : FL RX8 86 8 27 2 := ⟨_, _, _, _, cf8, by decide, wl_X8_86, rfl⟩
theorem fp_X8_86 : FF RX8 86 8 27 2 := ⟨_, _, _, _, cf8, by decide, wl_X8_86, rfl, rfl, rfl, rfl⟩
theorem wl_X8_89 : Cond.fieldLink RX8 89 (TX8 28).1 (TX8 28).2.1 (TX8 28).2.2.1 ∈ tb := memW 725 (by decide +kernel) (by decide)
theorem fl_X8_89 : FL RX8 89 8 28 2 := ⟨_, _, _, _, cf8, by decide, wl_X8_89, rfl⟩
theorem fp_X8_89 : FF RX8 89 8 28 2 := ⟨_, _, _, _, cf8, by decide, wl_X8_89, rfl, rfl, rfl, rfl⟩
theorem wl_X8_92 : Cond.fieldLink RX8 92 (TX8 29).1 (TX8 29).2.1 (TX8 29).2.2.1 ∈ tb := memW 726 (by decide +kernel) (by decide)
theorem fl_X8_92 : FL RX8 92 8 29 2 := ⟨_, _, _, _, cf8, by decide, wl_X8_92, rfl⟩
theorem fp_X8_92 : FF RX8 92 8 29 2 := ⟨_, _, _, _, cf8, by decide, wl_X8_92, rfl, rfl, rfl, rfl⟩
theorem wl_X8_95 : Cond.fieldLink RX8 95 (TX8 30).1 (TX8 30).2.1 (TX8 30).2.2.1 ∈ tb := memW 727 (by decide +kernel) (by decide)
theorem fl_X8_95 : FL RX8 95 8 30 2 := ⟨_, _, _, _, cf8, by decide, wl_X8_95, rfl⟩
theorem fp_X8_95 : FF RX8 95 8 30 2 := ⟨_, _, _, _, cf8, by decide, wl_X8_95, rfl, rfl, rfl, rfl⟩
theorem wl_X8_98 : Cond.fieldLink RX8 98 (TX8 31).1 (TX8 31).2.1 (TX8 31).2.2.1 ∈ tb := memW 728 (by decide +kernel) (by decide)
theorem fl_X8_98 : FL RX8 98 8 31 2 := ⟨_, _, _, _, cf8, by decide, wl_X8_98, rfl⟩
theorem fp_X8_98 : FF RX8 98 8 31 2 := ⟨_, _, _, _, cf8, by decide, wl_X8_98, rfl, rfl, rfl, rfl⟩
theorem wl_X8_134 : Cond.fieldLink RX8 134 (TX8 32).1 (TX8 32).2.1 (TX8 32).2.2.1 ∈ tb := memW 729 (by decide +kernel) (by decide)
theorem fl_X8_134 : FL RX8 134 8 32 0 := ⟨_, _, _, _, cf8, by decide, wl_X8_134, rfl⟩
theorem fp_X8_134 : FZ RX8 134 8 32 := ⟨_, _, _, _, cf8, by decide, wl_X8_134, rfl, rfl⟩
theorem wl_X8_221 : Cond.fieldLink RX8 221 (TX8 33).1 (TX8 33).2.1 (TX8 33).2.2.1 ∈ tb := memW 730 (by decide +kernel) (by decide)
theorem fl_X8_221 : FL RX8 221 8 33 0 := ⟨_, _, _, _, cf8, by decide, wl_X8_221, rfl⟩
theorem fp_X8_221 : FP RX8 221 8 33 0 := ⟨_, _, _, _, cf8, by decide, wl_X8_221, rfl, rfl, rfl⟩
theorem wl_X8_101 : Cond.fieldLink RX8 101 (TX8 34).1 (TX8 34).2.1 (TX8 34).2.2.1 ∈ tb := memW 731 (by decide +kernel) (by decide)
theorem fl_X8_101 : FL RX8 101 8 34 2 := ⟨_, _, _, _, cf8, by decide, wl_X8_101, rfl⟩
theorem fp_X8_101 : FF RX8 101 8 34 2 := ⟨_, _, _, _, cf8, by decide, wl_X8_101, rfl, rfl, rfl, rfl⟩
theorem wl_X8_104 : Cond.fieldLink RX8 104 (TX8 35).1 (TX8 35).2.1 (TX8 35).2.2.1 ∈ tb := memW 732 (by decide +kernel) (by decide)
theorem fl_X8_104 : FL RX8 104 8 35 2 := ⟨_, _, _, _, cf8, by decide, wl_X8_104, rfl⟩
theorem fp_X8_104 : FF RX8 104 8 35 2 := ⟨_, _, _, _, cf8, by decide, wl_X8_104, rfl, rfl, rfl, rfl⟩
theorem wl_X8_107 : Cond.fieldLink RX8 107 (TX8 36).1 (TX8 36).2.1 (TX8 36).2.2.1 ∈ tb := memW 733 (by decide +kernel) (by decide)
theorem fl_X8_107 : FL RX8 107 8 36 2 := ⟨_, _, _, _, cf8, by decide, wl_X8_107, rfl⟩
theorem fp_X8_107 : FF RX8 107 8 36 2 := ⟨_, _, _, _, cf8, by decide, wl_X8_107, rfl, rfl, rfl, rfl⟩
theorem wl_X8_110 : Cond.fieldLink RX8 110 (TX8 37).1 (TX8 37).2.1 (TX8 37).2.2.1 ∈ tb := memW 734 (by decide +kernel) (by decide)
theorem fl_X8_110 : FL RX8 110 8 37 2 := ⟨_, _, _, _, cf8, by decide, wl_X8_110, rfl⟩
theorem fp_X8_110 : FF RX8 110 8 37 2 := ⟨_, _, _, _, cf8, by decide, wl_X8_110, rfl, rfl, rfl, rfl⟩
theorem wl_X8_113 : Cond.fieldLink RX8 113 (TX8 38).1 (TX8 38).2.1 (TX8 38).2.2.1 ∈ tb := memW 735 (by decide +kernel) (by decide)
theorem fl_X8_113 : FL RX8 113 8 38 2 := ⟨_, _, _, _, cf8, by decide, wl_X8_113, rfl⟩
theorem fp_X8_113 : FF RX8 113 8 38 2 := ⟨_, _, _, _, cf8, by decide, wl_X8_113, rfl, rfl, rfl, rfl⟩
theorem wl_X8_116 : Cond.fieldLink RX8 116 (TX8 39).1 (TX8 39).2.1 (TX8 39).2.2.1 ∈ tb := memW 736 (by decide +kernel) (by decide)
theorem fl_X8_116 : FL RX8 116 8 39 2 := ⟨_, _, _, _, cf8, by decide, wl_X8_116, rfl⟩
theorem fp_X8_116 : FF RX8 116 8 39 2 := ⟨_, _, _, _, cf8, by decide, wl_X8_116, rfl, rfl, rfl, rfl⟩
theorem kl_L_7 : Cond.classLink RL 7 RX7 ∈ tb := memW 52 (by decide +kernel) (by decide)
theorem nw_L_7 : Nw RL 7 7 := ⟨_, _, _, _, cf7, kl_L_7, memW 53 (by decide +kernel) (by decide), memW 41 (by decide +kernel) (by decide), by decide +kernel⟩
set_option maxRecDepth 100000 in
theorem wc_X7_init : Cond.code yX7_init cX7_init 1 none ∈ tb := memW 56 (by rfl) (by decide)
theorem cw_L_9 : Iw RL 9 yX7_init cX7_init 1 0 := ⟨memW 54 (by decide +kernel) (by decide), memW 55 (by decide +kernel) (by decide), memW 41 (by decide +kernel) (by decide), wc_X7_init, rfl, by decide, by decide, by decide +kernel⟩
set_option maxRecDepth 100000 in
theorem ow_X7_1 : Cond.methodLink RX7 1 objectInit ∈ tb ∧ Cond.instanceMethod objectInit ∈ tb ∧ Cond.code objectInit ⟨#[0xb1]⟩ 1 none ∈ tb := ⟨memW 57 (by decide +kernel) (by decide), memW 58 (by decide +kernel) (by decide), memW 59 (by rfl) (by decide)⟩
theorem kl_X7_7 : Cond.classLink RX7 7 RX4 ∈ tb := memW 60 (by decide +kernel) (by decide)
theorem nw_X7_7 : Nw RX7 7 4 := ⟨_, _, _, _, cf4, kl_X7_7, memW 61 (by decide +kernel) (by decide), memW 42 (by decide +kernel) (by decide), by decide +kernel⟩
set_option maxRecDepth 100000 in
theorem wc_X4_init : Cond.code yX4_init cX4_init 2 none ∈ tb := memW 64 (by rfl) (by decide)
theorem cw_X7_9 : Iw RX7 9 yX4_init cX4_init 2 0 := ⟨memW 62 (by decide +kernel) (by decide), memW 63 (by decide +kernel) (by decide), memW 42 (by decide +kernel) (by decide), wc_X4_init, rfl, by decide, by decide, by decide +kernel⟩
set_option maxRecDepth 100000 in
theorem ow_X4_3 : Cond.methodLink RX4 3 objectInit ∈ tb ∧ Cond.instanceMethod objectInit ∈ tb ∧ Cond.code objectInit ⟨#[0xb1]⟩ 1 none ∈ tb := ⟨memW 65 (by decide +kernel) (by decide), memW 58 (by decide +kernel) (by decide), memW 59 (by rfl) (by decide)⟩
theorem kl_X4_9 : Cond.classLink RX4 9 RX0 ∈ tb := memW 66 (by decide +kernel) (by decide)
theorem nw_X4_9 : Nw RX4 9 0 := ⟨_, _, _, _, cf0, kl_X4_9, memW 68 (by decide +kernel) (by decide), memW 43 (by decide +kernel) (by decide), by decide +kernel⟩
set_option maxRecDepth 100000 in
theorem wc_X0_init : Cond.code yX0_init cX0_init 1 none ∈ tb := memW 71 (by rfl) (by decide)
theorem cw_X4_21 : Iw RX4 21 yX0_init cX0_init 1 0 := ⟨memW 69 (by decide +kernel) (by decide), memW 70 (by decide +kernel) (by decide), memW 43 (by decide +kernel) (by decide), wc_X0_init, rfl, by decide, by decide, by decide +kernel⟩
set_option maxRecDepth 100000 in
theorem ow_X0_3 : Cond.methodLink RX0 3 objectInit ∈ tb ∧ Cond.instanceMethod objectInit ∈ tb ∧ Cond.code objectInit ⟨#[0xb1]⟩ 1 none ∈ tb := ⟨memW 72 (by decide +kernel) (by decide), memW 58 (by decide +kernel) (by decide), memW 59 (by rfl) (by decide)⟩
set_option maxRecDepth 100000 in
theorem wc_J7_fill_53178 : Cond.code yJ7_fill_53178 cJ7_fill_53178 4 none ∈ tb := memW 75 (by rfl) (by decide)
theorem cw_X0_22 : Sw RX0 22 yJ7_fill_53178 cJ7_fill_53178 4 none 2 := ⟨memW 73 (by decide +kernel) (by decide), memW 74 (by decide +kernel) (by decide), memW 44 (by decide +kernel) (by decide), wc_J7_fill_53178, by decide, by decide, by decide +kernel⟩
theorem kl_X7_16 : Cond.classLink RX7 16 RX3 ∈ tb := memW 136 (by decide +kernel) (by decide)
theorem nw_X7_16 : Nw RX7 16 3 := ⟨_, _, _, _, cf3, kl_X7_16, memW 137 (by decide +kernel) (by decide), memW 45 (by decide +kernel) (by decide), by decide +kernel⟩
set_option maxRecDepth 100000 in
theorem wc_X3_init : Cond.code yX3_init cX3_init 1 none ∈ tb := memW 140 (by rfl) (by decide)
theorem cw_X7_18 : Iw RX7 18 yX3_init cX3_init 1 0 := ⟨memW 138 (by decide +kernel) (by decide), memW 139 (by decide +kernel) (by decide), memW 45 (by decide +kernel) (by decide), wc_X3_init, rfl, by decide, by decide, by decide +kernel⟩
set_option maxRecDepth 100000 in
theorem ow_X3_3 : Cond.methodLink RX3 3 objectInit ∈ tb ∧ Cond.instanceMethod objectInit ∈ tb ∧ Cond.code objectInit ⟨#[0xb1]⟩ 1 none ∈ tb := ⟨memW 141 (by decide +kernel) (by decide), memW 58 (by decide +kernel) (by decide), memW 59 (by rfl) (by decide)⟩
theorem kl_X3_9 : Cond.classLink RX3 9 RX1 ∈ tb := memW 142 (by decide +kernel) (by decide)
theorem nw_X3_9 : Nw RX3 9 1 := ⟨_, _, _, _, cf1, kl_X3_9, memW 144 (by decide +kernel) (by decide), memW 46 (by decide +kernel) (by decide), by decide +kernel⟩
set_option maxRecDepth 100000 in
theorem wc_X1_init : Cond.code yX1_init cX1_init 2 none ∈ tb := memW 147 (by rfl) (by decide)
theorem cw_X3_31 : Iw RX3 31 yX1_init cX1_init 2 1 := ⟨memW 145 (by decide +kernel) (by decide), memW 146 (by decide +kernel) (by decide), memW 46 (by decide +kernel) (by decide), wc_X1_init, rfl, by decide, by decide, by decide +kernel⟩
set_option maxRecDepth 100000 in
theorem ow_X1_3 : Cond.methodLink RX1 3 objectInit ∈ tb ∧ Cond.instanceMethod objectInit ∈ tb ∧ Cond.code objectInit ⟨#[0xb1]⟩ 1 none ∈ tb := ⟨memW 148 (by decide +kernel) (by decide), memW 58 (by decide +kernel) (by decide), memW 59 (by rfl) (by decide)⟩
theorem kl_X1_10 : Cond.classLink RX1 10 RX1 ∈ tb := memW 149 (by decide +kernel) (by decide)
theorem nw_X1_10 : Nw RX1 10 1 := ⟨_, _, _, _, cf1, kl_X1_10, memW 144 (by decide +kernel) (by decide), memW 46 (by decide +kernel) (by decide), by decide +kernel⟩
theorem cw_X3_34 : Sw RX3 34 yJ7_fill_53178 cJ7_fill_53178 4 none 2 := ⟨memW 216 (by decide +kernel) (by decide), memW 74 (by decide +kernel) (by decide), memW 44 (by decide +kernel) (by decide), wc_J7_fill_53178, by decide, by decide, by decide +kernel⟩
theorem kl_X7_23 : Cond.classLink RX7 23 RX6 ∈ tb := memW 239 (by decide +kernel) (by decide)
theorem nw_X7_23 : Nw RX7 23 6 := ⟨_, _, _, _, cf6, kl_X7_23, memW 240 (by decide +kernel) (by decide), memW 47 (by decide +kernel) (by decide), by decide +kernel⟩
set_option maxRecDepth 100000 in
theorem wc_X6_init : Cond.code yX6_init cX6_init 3 none ∈ tb := memW 243 (by rfl) (by decide)
theorem cw_X7_25 : Iw RX7 25 yX6_init cX6_init 3 2 := ⟨memW 241 (by decide +kernel) (by decide), memW 242 (by decide +kernel) (by decide), memW 47 (by decide +kernel) (by decide), wc_X6_init, rfl, by decide, by decide, by decide +kernel⟩
set_option maxRecDepth 100000 in
theorem ow_X6_1 : Cond.methodLink RX6 1 objectInit ∈ tb ∧ Cond.instanceMethod objectInit ∈ tb ∧ Cond.code objectInit ⟨#[0xb1]⟩ 1 none ∈ tb := ⟨memW 244 (by decide +kernel) (by decide), memW 58 (by decide +kernel) (by decide), memW 59 (by rfl) (by decide)⟩
theorem kl_X7_32 : Cond.classLink RX7 32 RX5 ∈ tb := memW 258 (by decide +kernel) (by decide)
theorem nw_X7_32 : Nw RX7 32 5 := ⟨_, _, _, _, cf5, kl_X7_32, memW 259 (by decide +kernel) (by decide), memW 48 (by decide +kernel) (by decide), by decide +kernel⟩
set_option maxRecDepth 100000 in
theorem wc_X5_init : Cond.code yX5_init cX5_init 3 none ∈ tb := memW 262 (by rfl) (by decide)
theorem cw_X7_34 : Iw RX7 34 yX5_init cX5_init 3 2 := ⟨memW 260 (by decide +kernel) (by decide), memW 261 (by decide +kernel) (by decide), memW 48 (by decide +kernel) (by decide), wc_X5_init, rfl, by decide, by decide, by decide +kernel⟩
set_option maxRecDepth 100000 in
theorem ow_X5_3 : Cond.methodLink RX5 3 objectInit ∈ tb ∧ Cond.instanceMethod objectInit ∈ tb ∧ Cond.code objectInit ⟨#[0xb1]⟩ 1 none ∈ tb := ⟨memW 263 (by decide +kernel) (by decide), memW 58 (by decide +kernel) (by decide), memW 59 (by rfl) (by decide)⟩
theorem kl_X7_39 : Cond.classLink RX7 39 RX2 ∈ tb := memW 271 (by decide +kernel) (by decide)
theorem nw_X7_39 : Nw RX7 39 2 := ⟨_, _, _, _, cf2, kl_X7_39, memW 272 (by decide +kernel) (by decide), memW 49 (by decide +kernel) (by decide), by decide +kernel⟩
set_option maxRecDepth 100000 in
theorem wc_X2_init : Cond.code yX2_init cX2_init 1 none ∈ tb := memW 275 (by rfl) (by decide)
theorem cw_X7_41 : Iw RX7 41 yX2_init cX2_init 1 0 := ⟨memW 273 (by decide +kernel) (by decide), memW 274 (by decide +kernel) (by decide), memW 49 (by decide +kernel) (by decide), wc_X2_init, rfl, by decide, by decide, by decide +kernel⟩
set_option maxRecDepth 100000 in
theorem ow_X2_3 : Cond.methodLink RX2 3 objectInit ∈ tb ∧ Cond.instanceMethod objectInit ∈ tb ∧ Cond.code objectInit ⟨#[0xb1]⟩ 1 none ∈ tb := ⟨memW 276 (by decide +kernel) (by decide), memW 58 (by decide +kernel) (by decide), memW 59 (by rfl) (by decide)⟩
set_option maxRecDepth 100000 in
theorem wc_X7_lake : Cond.code yX7_lake cX7_lake 6 (some .int) ∈ tb := memW 328 (by rfl) (by decide)
theorem cw_L_13 : Vw RL 13 RX7 yX7_lake cX7_lake 6 (some .int) 4 := ⟨memW 325 (by decide +kernel) (by decide), memW 326 (by decide +kernel) (by decide), memW 327 (by decide +kernel) (by decide), memW 41 (by decide +kernel) (by decide), wc_X7_lake, rfl, by decide, by decide, by decide +kernel⟩
set_option maxRecDepth 100000 in
theorem wc_X7_isWithin : Cond.code yX7_isWithin cX7_isWithin 2 (some .boolean) ∈ tb := memW 331 (by rfl) (by decide)
theorem cw_X7_46 : Sw RX7 46 yX7_isWithin cX7_isWithin 2 (some .boolean) 2 := ⟨memW 329 (by decide +kernel) (by decide), memW 330 (by decide +kernel) (by decide), memW 41 (by decide +kernel) (by decide), wc_X7_isWithin, by decide, by decide, by decide +kernel⟩
set_option maxRecDepth 100000 in
theorem wc_X6_forget : Cond.code yX6_forget cX6_forget 1 none ∈ tb := memW 335 (by rfl) (by decide)
theorem cw_X7_62 : Vw RX7 62 RX6 yX6_forget cX6_forget 1 none 0 := ⟨memW 332 (by decide +kernel) (by decide), memW 333 (by decide +kernel) (by decide), memW 334 (by decide +kernel) (by decide), memW 47 (by decide +kernel) (by decide), wc_X6_forget, rfl, by decide, by decide, by decide +kernel⟩
set_option maxRecDepth 100000 in
theorem wc_X4_addLake : Cond.code yX4_addLake cX4_addLake 6 (some .int) ∈ tb := memW 339 (by rfl) (by decide)
theorem cw_X7_65 : Vw RX7 65 RX4 yX4_addLake cX4_addLake 6 (some .int) 4 := ⟨memW 336 (by decide +kernel) (by decide), memW 337 (by decide +kernel) (by decide), memW 338 (by decide +kernel) (by decide), memW 42 (by decide +kernel) (by decide), wc_X4_addLake, rfl, by decide, by decide, by decide +kernel⟩
set_option maxRecDepth 100000 in
theorem wc_X7_head : Cond.code yX7_head cX7_head 6 (some .int) ∈ tb := memW 343 (by rfl) (by decide)
theorem cw_L_18 : Vw RL 18 RX7 yX7_head cX7_head 6 (some .int) 3 := ⟨memW 340 (by decide +kernel) (by decide), memW 341 (by decide +kernel) (by decide), memW 342 (by decide +kernel) (by decide), memW 41 (by decide +kernel) (by decide), wc_X7_head, rfl, by decide, by decide, by decide +kernel⟩
set_option maxRecDepth 100000 in
theorem wc_X4_lakeAt : Cond.code yX4_lakeAt cX4_lakeAt 2 (some (.object "LakeChain$Lake")) ∈ tb := memW 347 (by rfl) (by decide)
theorem cw_X7_69 : Vw RX7 69 RX4 yX4_lakeAt cX4_lakeAt 2 (some (.object "LakeChain$Lake")) 1 := ⟨memW 344 (by decide +kernel) (by decide), memW 345 (by decide +kernel) (by decide), memW 346 (by decide +kernel) (by decide), memW 42 (by decide +kernel) (by decide), wc_X4_lakeAt, rfl, by decide, by decide, by decide +kernel⟩
set_option maxRecDepth 100000 in
theorem wc_X0_takesHead : Cond.code yX0_takesHead cX0_takesHead 3 (some .boolean) ∈ tb := memW 351 (by rfl) (by decide)
theorem cw_X7_78 : Vw RX7 78 RX0 yX0_takesHead cX0_takesHead 3 (some .boolean) 2 := ⟨memW 348 (by decide +kernel) (by decide), memW 349 (by decide +kernel) (by decide), memW 350 (by decide +kernel) (by decide), memW 43 (by decide +kernel) (by decide), wc_X0_takesHead, rfl, by decide, by decide, by decide +kernel⟩
set_option maxRecDepth 100000 in
theorem wc_X0_headAt : Cond.code yX0_headAt cX0_headAt 2 (some .int) ∈ tb := memW 355 (by rfl) (by decide)
theorem cw_X0_28 : Vw RX0 28 RX0 yX0_headAt cX0_headAt 2 (some .int) 1 := ⟨memW 352 (by decide +kernel) (by decide), memW 353 (by decide +kernel) (by decide), memW 354 (by decide +kernel) (by decide), memW 43 (by decide +kernel) (by decide), wc_X0_headAt, rfl, by decide, by decide, by decide +kernel⟩
theorem cw_X7_81 : Vw RX7 81 RX0 yX0_headAt cX0_headAt 2 (some .int) 1 := ⟨memW 356 (by decide +kernel) (by decide), memW 353 (by decide +kernel) (by decide), memW 354 (by decide +kernel) (by decide), memW 43 (by decide +kernel) (by decide), wc_X0_headAt, rfl, by decide, by decide, by decide +kernel⟩
set_option maxRecDepth 100000 in
theorem wc_X7_end : Cond.code yX7_end cX7_end 5 (some .int) ∈ tb := memW 360 (by rfl) (by decide)
theorem cw_L_23 : Vw RL 23 RX7 yX7_end cX7_end 5 (some .int) 2 := ⟨memW 357 (by decide +kernel) (by decide), memW 358 (by decide +kernel) (by decide), memW 359 (by decide +kernel) (by decide), memW 41 (by decide +kernel) (by decide), wc_X7_end, rfl, by decide, by decide, by decide +kernel⟩
set_option maxRecDepth 100000 in
theorem wc_X7_weeks : Cond.code yX7_weeks cX7_weeks 3 (some .int) ∈ tb := memW 364 (by rfl) (by decide)
theorem cw_L_28 : Vw RL 28 RX7 yX7_weeks cX7_weeks 3 (some .int) 2 := ⟨memW 361 (by decide +kernel) (by decide), memW 362 (by decide +kernel) (by decide), memW 363 (by decide +kernel) (by decide), memW 41 (by decide +kernel) (by decide), wc_X7_weeks, rfl, by decide, by decide, by decide +kernel⟩
set_option maxRecDepth 100000 in
theorem wc_X3_clear : Cond.code yX3_clear cX3_clear 3 none ∈ tb := memW 368 (by rfl) (by decide)
theorem cw_X7_92 : Vw RX7 92 RX3 yX3_clear cX3_clear 3 none 2 := ⟨memW 365 (by decide +kernel) (by decide), memW 366 (by decide +kernel) (by decide), memW 367 (by decide +kernel) (by decide), memW 45 (by decide +kernel) (by decide), wc_X3_clear, rfl, by decide, by decide, by decide +kernel⟩
set_option maxRecDepth 100000 in
theorem wc_X1_dropChildren : Cond.code yX1_dropChildren cX1_dropChildren 1 none ∈ tb := memW 372 (by rfl) (by decide)
theorem cw_X3_40 : Vw RX3 40 RX1 yX1_dropChildren cX1_dropChildren 1 none 0 := ⟨memW 369 (by decide +kernel) (by decide), memW 370 (by decide +kernel) (by decide), memW 371 (by decide +kernel) (by decide), memW 46 (by decide +kernel) (by decide), wc_X1_dropChildren, rfl, by decide, by decide, by decide +kernel⟩
set_option maxRecDepth 100000 in
theorem wc_X7_price : Cond.code yX7_price cX7_price 4 (some .int) ∈ tb := memW 376 (by rfl) (by decide)
theorem cw_L_32 : Vw RL 32 RX7 yX7_price cX7_price 4 (some .int) 2 := ⟨memW 373 (by decide +kernel) (by decide), memW 374 (by decide +kernel) (by decide), memW 375 (by decide +kernel) (by decide), memW 41 (by decide +kernel) (by decide), wc_X7_price, rfl, by decide, by decide, by decide +kernel⟩
set_option maxRecDepth 100000 in
theorem wc_X7_node : Cond.code yX7_node cX7_node 6 (some .int) ∈ tb := memW 380 (by rfl) (by decide)
theorem cw_L_36 : Vw RL 36 RX7 yX7_node cX7_node 6 (some .int) 3 := ⟨memW 377 (by decide +kernel) (by decide), memW 378 (by decide +kernel) (by decide), memW 379 (by decide +kernel) (by decide), memW 41 (by decide +kernel) (by decide), wc_X7_node, rfl, by decide, by decide, by decide +kernel⟩
set_option maxRecDepth 100000 in
theorem wc_X3_nodeAt : Cond.code yX3_nodeAt cX3_nodeAt 2 (some (.object "LakeChain$Node")) ∈ tb := memW 384 (by rfl) (by decide)
theorem cw_X7_99 : Vw RX7 99 RX3 yX3_nodeAt cX3_nodeAt 2 (some (.object "LakeChain$Node")) 1 := ⟨memW 381 (by decide +kernel) (by decide), memW 382 (by decide +kernel) (by decide), memW 383 (by decide +kernel) (by decide), memW 45 (by decide +kernel) (by decide), wc_X3_nodeAt, rfl, by decide, by decide, by decide +kernel⟩
set_option maxRecDepth 100000 in
theorem wc_X3_isLast : Cond.code yX3_isLast cX3_isLast 2 (some .boolean) ∈ tb := memW 388 (by rfl) (by decide)
theorem cw_X7_103 : Vw RX7 103 RX3 yX3_isLast cX3_isLast 2 (some .boolean) 1 := ⟨memW 385 (by decide +kernel) (by decide), memW 386 (by decide +kernel) (by decide), memW 387 (by decide +kernel) (by decide), memW 45 (by decide +kernel) (by decide), wc_X3_isLast, rfl, by decide, by decide, by decide +kernel⟩
set_option maxRecDepth 100000 in
theorem wc_X4_mostIn : Cond.code yX4_mostIn cX4_mostIn 3 (some .int) ∈ tb := memW 392 (by rfl) (by decide)
theorem cw_X7_115 : Vw RX7 115 RX4 yX4_mostIn cX4_mostIn 3 (some .int) 0 := ⟨memW 389 (by decide +kernel) (by decide), memW 390 (by decide +kernel) (by decide), memW 391 (by decide +kernel) (by decide), memW 42 (by decide +kernel) (by decide), wc_X4_mostIn, rfl, by decide, by decide, by decide +kernel⟩
set_option maxRecDepth 100000 in
theorem wc_X3_addNode : Cond.code yX3_addNode cX3_addNode 4 (some (.object "LakeChain$Node")) ∈ tb := memW 396 (by rfl) (by decide)
theorem cw_X7_119 : Vw RX7 119 RX3 yX3_addNode cX3_addNode 4 (some (.object "LakeChain$Node")) 2 := ⟨memW 393 (by decide +kernel) (by decide), memW 394 (by decide +kernel) (by decide), memW 395 (by decide +kernel) (by decide), memW 45 (by decide +kernel) (by decide), wc_X3_addNode, rfl, by decide, by decide, by decide +kernel⟩
set_option maxRecDepth 100000 in
theorem wc_X1_addChild : Cond.code yX1_addChild cX1_addChild 2 none ∈ tb := memW 400 (by rfl) (by decide)
theorem cw_X3_53 : Vw RX3 53 RX1 yX1_addChild cX1_addChild 2 none 1 := ⟨memW 397 (by decide +kernel) (by decide), memW 398 (by decide +kernel) (by decide), memW 399 (by decide +kernel) (by decide), memW 46 (by decide +kernel) (by decide), wc_X1_addChild, rfl, by decide, by decide, by decide +kernel⟩
set_option maxRecDepth 100000 in
theorem wc_X4_tellIn : Cond.code yX4_tellIn cX4_tellIn 5 none ∈ tb := memW 404 (by rfl) (by decide)
theorem cw_X7_126 : Vw RX7 126 RX4 yX4_tellIn cX4_tellIn 5 none 2 := ⟨memW 401 (by decide +kernel) (by decide), memW 402 (by decide +kernel) (by decide), memW 403 (by decide +kernel) (by decide), memW 42 (by decide +kernel) (by decide), wc_X4_tellIn, rfl, by decide, by decide, by decide +kernel⟩
set_option maxRecDepth 100000 in
theorem wc_X7_about : Cond.code yX7_about cX7_about 4 (some .int) ∈ tb := memW 408 (by rfl) (by decide)
theorem cw_L_40 : Vw RL 40 RX7 yX7_about cX7_about 4 (some .int) 2 := ⟨memW 405 (by decide +kernel) (by decide), memW 406 (by decide +kernel) (by decide), memW 407 (by decide +kernel) (by decide), memW 41 (by decide +kernel) (by decide), wc_X7_about, rfl, by decide, by decide, by decide +kernel⟩
set_option maxRecDepth 100000 in
theorem wc_X7_count : Cond.code yX7_count cX7_count 2 (some .int) ∈ tb := memW 412 (by rfl) (by decide)
theorem cw_L_44 : Vw RL 44 RX7 yX7_count cX7_count 2 (some .int) 1 := ⟨memW 409 (by decide +kernel) (by decide), memW 410 (by decide +kernel) (by decide), memW 411 (by decide +kernel) (by decide), memW 41 (by decide +kernel) (by decide), wc_X7_count, rfl, by decide, by decide, by decide +kernel⟩
set_option maxRecDepth 100000 in
theorem wc_X7_isWhole : Cond.code yX7_isWhole cX7_isWhole 1 (some .boolean) ∈ tb := memW 416 (by rfl) (by decide)
theorem cw_X7_149 : Vw RX7 149 RX7 yX7_isWhole cX7_isWhole 1 (some .boolean) 0 := ⟨memW 413 (by decide +kernel) (by decide), memW 415 (by decide +kernel) (by decide), memW 0 (by decide +kernel) (by decide), memW 41 (by decide +kernel) (by decide), wc_X7_isWhole, rfl, by decide, by decide, by decide +kernel⟩
set_option maxRecDepth 100000 in
theorem wc_X3_isFilled : Cond.code yX3_isFilled cX3_isFilled 2 (some .boolean) ∈ tb := memW 420 (by rfl) (by decide)
theorem cw_X7_249 : Vw RX7 249 RX3 yX3_isFilled cX3_isFilled 2 (some .boolean) 0 := ⟨memW 417 (by decide +kernel) (by decide), memW 418 (by decide +kernel) (by decide), memW 419 (by decide +kernel) (by decide), memW 45 (by decide +kernel) (by decide), wc_X3_isFilled, rfl, by decide, by decide, by decide +kernel⟩
theorem cw_X3_57 : Vw RX3 57 RX3 yX3_isLast cX3_isLast 2 (some .boolean) 1 := ⟨memW 421 (by decide +kernel) (by decide), memW 386 (by decide +kernel) (by decide), memW 387 (by decide +kernel) (by decide), memW 45 (by decide +kernel) (by decide), wc_X3_isLast, rfl, by decide, by decide, by decide +kernel⟩
set_option maxRecDepth 100000 in
theorem wc_X7_worth : Cond.code yX7_worth cX7_worth 4 (some .long) ∈ tb := memW 425 (by rfl) (by decide)
theorem cw_L_49 : Vw RL 49 RX7 yX7_worth cX7_worth 4 (some .long) 2 := ⟨memW 422 (by decide +kernel) (by decide), memW 423 (by decide +kernel) (by decide), memW 424 (by decide +kernel) (by decide), memW 41 (by decide +kernel) (by decide), wc_X7_worth, rfl, by decide, by decide, by decide +kernel⟩
set_option maxRecDepth 100000 in
theorem wc_X4_hasState : Cond.code yX4_hasState cX4_hasState 2 (some .boolean) ∈ tb := memW 429 (by rfl) (by decide)
theorem cw_X7_153 : Vw RX7 153 RX4 yX4_hasState cX4_hasState 2 (some .boolean) 1 := ⟨memW 426 (by decide +kernel) (by decide), memW 427 (by decide +kernel) (by decide), memW 428 (by decide +kernel) (by decide), memW 42 (by decide +kernel) (by decide), wc_X4_hasState, rfl, by decide, by decide, by decide +kernel⟩
theorem kc_X7_157 : Cond.constantLong RX7 157 (-9000000000000000000) ∈ tb := memW 430 (by decide +kernel) (by decide)
set_option maxRecDepth 100000 in
theorem wc_X6_worthAt : Cond.code yX6_worthAt cX6_worthAt 3 (some .long) ∈ tb := memW 434 (by rfl) (by decide)
theorem cw_X7_159 : Vw RX7 159 RX6 yX6_worthAt cX6_worthAt 3 (some .long) 2 := ⟨memW 431 (by decide +kernel) (by decide), memW 432 (by decide +kernel) (by decide), memW 433 (by decide +kernel) (by decide), memW 47 (by decide +kernel) (by decide), wc_X6_worthAt, rfl, by decide, by decide, by decide +kernel⟩
set_option maxRecDepth 100000 in
theorem wc_X3_weeksLeft : Cond.code yX3_weeksLeft cX3_weeksLeft 2 (some .int) ∈ tb := memW 438 (by rfl) (by decide)
theorem cw_X6_25 : Vw RX6 25 RX3 yX3_weeksLeft cX3_weeksLeft 2 (some .int) 1 := ⟨memW 435 (by decide +kernel) (by decide), memW 436 (by decide +kernel) (by decide), memW 437 (by decide +kernel) (by decide), memW 45 (by decide +kernel) (by decide), wc_X3_weeksLeft, rfl, by decide, by decide, by decide +kernel⟩
set_option maxRecDepth 100000 in
theorem wc_X6_worthOf : Cond.code yX6_worthOf cX6_worthOf 4 (some .long) ∈ tb := memW 442 (by rfl) (by decide)
theorem cw_X6_38 : Vw RX6 38 RX6 yX6_worthOf cX6_worthOf 4 (some .long) 3 := ⟨memW 439 (by decide +kernel) (by decide), memW 441 (by decide +kernel) (by decide), memW 1 (by decide +kernel) (by decide), memW 47 (by decide +kernel) (by decide), wc_X6_worthOf, rfl, by decide, by decide, by decide +kernel⟩
set_option maxRecDepth 100000 in
theorem wc_X4_endWorth : Cond.code yX4_endWorth cX4_endWorth 5 (some .long) ∈ tb := memW 446 (by rfl) (by decide)
theorem cw_X6_41 : Vw RX6 41 RX4 yX4_endWorth cX4_endWorth 5 (some .long) 1 := ⟨memW 443 (by decide +kernel) (by decide), memW 444 (by decide +kernel) (by decide), memW 445 (by decide +kernel) (by decide), memW 42 (by decide +kernel) (by decide), wc_X4_endWorth, rfl, by decide, by decide, by decide +kernel⟩
set_option maxRecDepth 100000 in
theorem wc_X4_measureOf : Cond.code yX4_measureOf cX4_measureOf 5 (some .int) ∈ tb := memW 450 (by rfl) (by decide)
theorem cw_X4_40 : Vw RX4 40 RX4 yX4_measureOf cX4_measureOf 5 (some .int) 2 := ⟨memW 447 (by decide +kernel) (by decide), memW 448 (by decide +kernel) (by decide), memW 449 (by decide +kernel) (by decide), memW 42 (by decide +kernel) (by decide), wc_X4_measureOf, rfl, by decide, by decide, by decide +kernel⟩
set_option maxRecDepth 100000 in
theorem wc_X6_refresh : Cond.code yX6_refresh cX6_refresh 2 none ∈ tb := memW 454 (by rfl) (by decide)
theorem cw_X6_21 : Vw RX6 21 RX6 yX6_refresh cX6_refresh 2 none 1 := ⟨memW 451 (by decide +kernel) (by decide), memW 453 (by decide +kernel) (by decide), memW 2 (by decide +kernel) (by decide), memW 47 (by decide +kernel) (by decide), wc_X6_refresh, rfl, by decide, by decide, by decide +kernel⟩
theorem kc_X6_53 : Cond.constantLong RX6 53 (-1) ∈ tb := memW 455 (by decide +kernel) (by decide)
set_option maxRecDepth 100000 in
theorem wc_J7_fill_d0a16 : Cond.code yJ7_fill_d0a16 cJ7_fill_d0a16 5 none ∈ tb := memW 458 (by rfl) (by decide)
theorem cw_X6_64 : Sw RX6 64 yJ7_fill_d0a16 cJ7_fill_d0a16 5 none 2 := ⟨memW 456 (by decide +kernel) (by decide), memW 457 (by decide +kernel) (by decide), memW 44 (by decide +kernel) (by decide), wc_J7_fill_d0a16, by decide, by decide, by decide +kernel⟩
set_option maxRecDepth 100000 in
theorem wc_X6_searchBest : Cond.code yX6_searchBest cX6_searchBest 37 (some .long) ∈ tb := memW 462 (by rfl) (by decide)
theorem cw_X6_31 : Vw RX6 31 RX6 yX6_searchBest cX6_searchBest 37 (some .long) 3 := ⟨memW 459 (by decide +kernel) (by decide), memW 461 (by decide +kernel) (by decide), memW 3 (by decide +kernel) (by decide), memW 47 (by decide +kernel) (by decide), wc_X6_searchBest, rfl, by decide, by decide, by decide +kernel⟩
theorem cw_X6_74 : Vw RX6 74 RX4 yX4_measureOf cX4_measureOf 5 (some .int) 2 := ⟨memW 463 (by decide +kernel) (by decide), memW 448 (by decide +kernel) (by decide), memW 449 (by decide +kernel) (by decide), memW 42 (by decide +kernel) (by decide), wc_X4_measureOf, rfl, by decide, by decide, by decide +kernel⟩
set_option maxRecDepth 100000 in
theorem wc_X3_scaleOf : Cond.code yX3_scaleOf cX3_scaleOf 5 (some .long) ∈ tb := memW 467 (by rfl) (by decide)
theorem cw_X6_78 : Vw RX6 78 RX3 yX3_scaleOf cX3_scaleOf 5 (some .long) 1 := ⟨memW 464 (by decide +kernel) (by decide), memW 465 (by decide +kernel) (by decide), memW 466 (by decide +kernel) (by decide), memW 45 (by decide +kernel) (by decide), wc_X3_scaleOf, rfl, by decide, by decide, by decide +kernel⟩
set_option maxRecDepth 100000 in
theorem wc_X3_priceFrom : Cond.code yX3_priceFrom cX3_priceFrom 3 (some .int) ∈ tb := memW 471 (by rfl) (by decide)
theorem cw_X6_81 : Vw RX6 81 RX3 yX3_priceFrom cX3_priceFrom 3 (some .int) 1 := ⟨memW 468 (by decide +kernel) (by decide), memW 469 (by decide +kernel) (by decide), memW 470 (by decide +kernel) (by decide), memW 45 (by decide +kernel) (by decide), wc_X3_priceFrom, rfl, by decide, by decide, by decide +kernel⟩
theorem cw_X6_84 : Vw RX6 84 RX0 yX0_headAt cX0_headAt 2 (some .int) 1 := ⟨memW 472 (by decide +kernel) (by decide), memW 353 (by decide +kernel) (by decide), memW 354 (by decide +kernel) (by decide), memW 43 (by decide +kernel) (by decide), wc_X0_headAt, rfl, by decide, by decide, by decide +kernel⟩
set_option maxRecDepth 100000 in
theorem wc_X0_mostLet : Cond.code yX0_mostLet cX0_mostLet 2 (some .int) ∈ tb := memW 476 (by rfl) (by decide)
theorem cw_X6_90 : Vw RX6 90 RX0 yX0_mostLet cX0_mostLet 2 (some .int) 1 := ⟨memW 473 (by decide +kernel) (by decide), memW 474 (by decide +kernel) (by decide), memW 475 (by decide +kernel) (by decide), memW 43 (by decide +kernel) (by decide), wc_X0_mostLet, rfl, by decide, by decide, by decide +kernel⟩
set_option maxRecDepth 100000 in
theorem wc_X0_leastLet : Cond.code yX0_leastLet cX0_leastLet 2 (some .int) ∈ tb := memW 480 (by rfl) (by decide)
theorem cw_X0_44 : Vw RX0 44 RX0 yX0_leastLet cX0_leastLet 2 (some .int) 1 := ⟨memW 477 (by decide +kernel) (by decide), memW 478 (by decide +kernel) (by decide), memW 479 (by decide +kernel) (by decide), memW 43 (by decide +kernel) (by decide), wc_X0_leastLet, rfl, by decide, by decide, by decide +kernel⟩
set_option maxRecDepth 100000 in
theorem mw_X0_38 : Mw RX0 38 Lib.Math.min.name Lib.Math.min.code := ⟨memW 481 (by decide +kernel) (by decide), memW 482 (by decide +kernel) (by decide), memW 51 (by decide +kernel) (by decide), memW 483 (by rfl) (by decide)⟩
set_option maxRecDepth 100000 in
theorem mw_X0_53 : Mw RX0 53 Lib.Math.max.name Lib.Math.max.code := ⟨memW 484 (by decide +kernel) (by decide), memW 485 (by decide +kernel) (by decide), memW 51 (by decide +kernel) (by decide), memW 486 (by rfl) (by decide)⟩
theorem cw_X6_93 : Vw RX6 93 RX0 yX0_leastLet cX0_leastLet 2 (some .int) 1 := ⟨memW 487 (by decide +kernel) (by decide), memW 478 (by decide +kernel) (by decide), memW 479 (by decide +kernel) (by decide), memW 43 (by decide +kernel) (by decide), wc_X0_leastLet, rfl, by decide, by decide, by decide +kernel⟩
set_option maxRecDepth 100000 in
theorem mw_X6_99 : Mw RX6 99 Lib.Math.min.name Lib.Math.min.code := ⟨memW 488 (by decide +kernel) (by decide), memW 482 (by decide +kernel) (by decide), memW 51 (by decide +kernel) (by decide), memW 483 (by rfl) (by decide)⟩
set_option maxRecDepth 100000 in
theorem wc_X6_meanFrom : Cond.code yX6_meanFrom cX6_meanFrom 5 (some .long) ∈ tb := memW 492 (by rfl) (by decide)
theorem cw_X6_107 : Vw RX6 107 RX6 yX6_meanFrom cX6_meanFrom 5 (some .long) 3 := ⟨memW 489 (by decide +kernel) (by decide), memW 491 (by decide +kernel) (by decide), memW 4 (by decide +kernel) (by decide), memW 47 (by decide +kernel) (by decide), wc_X6_meanFrom, rfl, by decide, by decide, by decide +kernel⟩
set_option maxRecDepth 100000 in
theorem wc_X6_meanOfChildren : Cond.code yX6_meanOfChildren cX6_meanOfChildren 8 (some .long) ∈ tb := memW 496 (by rfl) (by decide)
theorem cw_X6_110 : Vw RX6 110 RX6 yX6_meanOfChildren cX6_meanOfChildren 8 (some .long) 3 := ⟨memW 493 (by decide +kernel) (by decide), memW 495 (by decide +kernel) (by decide), memW 5 (by decide +kernel) (by decide), memW 47 (by decide +kernel) (by decide), wc_X6_meanOfChildren, rfl, by decide, by decide, by decide +kernel⟩
set_option maxRecDepth 100000 in
theorem wc_X1_childAt : Cond.code yX1_childAt cX1_childAt 2 (some (.object "LakeChain$Node")) ∈ tb := memW 500 (by rfl) (by decide)
theorem cw_X6_116 : Vw RX6 116 RX1 yX1_childAt cX1_childAt 2 (some (.object "LakeChain$Node")) 1 := ⟨memW 497 (by decide +kernel) (by decide), memW 498 (by decide +kernel) (by decide), memW 499 (by decide +kernel) (by decide), memW 46 (by decide +kernel) (by decide), wc_X1_childAt, rfl, by decide, by decide, by decide +kernel⟩
set_option maxRecDepth 100000 in
theorem wc_X4_flow : Cond.code yX4_flow cX4_flow 10 (some .int) ∈ tb := memW 504 (by rfl) (by decide)
theorem cw_X6_127 : Vw RX6 127 RX4 yX4_flow cX4_flow 10 (some .int) 3 := ⟨memW 501 (by decide +kernel) (by decide), memW 502 (by decide +kernel) (by decide), memW 503 (by decide +kernel) (by decide), memW 42 (by decide +kernel) (by decide), wc_X4_flow, rfl, by decide, by decide, by decide +kernel⟩
set_option maxRecDepth 100000 in
theorem wc_X4_letOf : Cond.code yX4_letOf cX4_letOf 2 (some .int) ∈ tb := memW 507 (by rfl) (by decide)
theorem cw_X4_47 : Sw RX4 47 yX4_letOf cX4_letOf 2 (some .int) 2 := ⟨memW 505 (by decide +kernel) (by decide), memW 506 (by decide +kernel) (by decide), memW 42 (by decide +kernel) (by decide), wc_X4_letOf, by decide, by decide, by decide +kernel⟩
set_option maxRecDepth 100000 in
theorem mw_X4_66 : Mw RX4 66 Lib.Math.max.name Lib.Math.max.code := ⟨memW 508 (by decide +kernel) (by decide), memW 485 (by decide +kernel) (by decide), memW 51 (by decide +kernel) (by decide), memW 486 (by rfl) (by decide)⟩
set_option maxRecDepth 100000 in
theorem wc_X7_policy : Cond.code yX7_policy cX7_policy 5 (some .int) ∈ tb := memW 513 (by rfl) (by decide)
theorem cw_L_54 : Vw RL 54 RX7 yX7_policy cX7_policy 5 (some .int) 3 := ⟨memW 510 (by decide +kernel) (by decide), memW 511 (by decide +kernel) (by decide), memW 512 (by decide +kernel) (by decide), memW 41 (by decide +kernel) (by decide), wc_X7_policy, rfl, by decide, by decide, by decide +kernel⟩
set_option maxRecDepth 100000 in
theorem wc_X6_bestLets : Cond.code yX6_bestLets cX6_bestLets 3 (some .int) ∈ tb := memW 517 (by rfl) (by decide)
theorem cw_X7_163 : Vw RX7 163 RX6 yX6_bestLets cX6_bestLets 3 (some .int) 2 := ⟨memW 514 (by decide +kernel) (by decide), memW 515 (by decide +kernel) (by decide), memW 516 (by decide +kernel) (by decide), memW 47 (by decide +kernel) (by decide), wc_X6_bestLets, rfl, by decide, by decide, by decide +kernel⟩
theorem cw_X7_167 : Sw RX7 167 yX4_letOf cX4_letOf 2 (some .int) 2 := ⟨memW 518 (by decide +kernel) (by decide), memW 506 (by decide +kernel) (by decide), memW 42 (by decide +kernel) (by decide), wc_X4_letOf, by decide, by decide, by decide +kernel⟩
set_option maxRecDepth 100000 in
theorem wc_X7_water : Cond.code yX7_water cX7_water 6 (some .long) ∈ tb := memW 522 (by rfl) (by decide)
theorem cw_L_58 : Vw RL 58 RX7 yX7_water cX7_water 6 (some .long) 3 := ⟨memW 519 (by decide +kernel) (by decide), memW 520 (by decide +kernel) (by decide), memW 521 (by decide +kernel) (by decide), memW 41 (by decide +kernel) (by decide), wc_X7_water, rfl, by decide, by decide, by decide +kernel⟩
theorem cw_X7_171 : Vw RX7 171 RX4 yX4_measureOf cX4_measureOf 5 (some .int) 2 := ⟨memW 523 (by decide +kernel) (by decide), memW 448 (by decide +kernel) (by decide), memW 449 (by decide +kernel) (by decide), memW 42 (by decide +kernel) (by decide), wc_X4_measureOf, rfl, by decide, by decide, by decide +kernel⟩
set_option maxRecDepth 100000 in
theorem wc_X7_needs : Cond.code yX7_needs cX7_needs 9 (some .int) ∈ tb := memW 527 (by rfl) (by decide)
theorem cw_L_65 : Vw RL 65 RX7 yX7_needs cX7_needs 9 (some .int) 2 := ⟨memW 524 (by decide +kernel) (by decide), memW 525 (by decide +kernel) (by decide), memW 526 (by decide +kernel) (by decide), memW 41 (by decide +kernel) (by decide), wc_X7_needs, rfl, by decide, by decide, by decide +kernel⟩
set_option maxRecDepth 100000 in
theorem wc_X4_sumOf : Cond.code yX4_sumOf cX4_sumOf 4 (some .int) ∈ tb := memW 531 (by rfl) (by decide)
theorem cw_X7_177 : Vw RX7 177 RX4 yX4_sumOf cX4_sumOf 4 (some .int) 1 := ⟨memW 528 (by decide +kernel) (by decide), memW 529 (by decide +kernel) (by decide), memW 530 (by decide +kernel) (by decide), memW 42 (by decide +kernel) (by decide), wc_X4_sumOf, rfl, by decide, by decide, by decide +kernel⟩
set_option maxRecDepth 100000 in
theorem wc_X7_rule : Cond.code yX7_rule cX7_rule 5 (some .int) ∈ tb := memW 535 (by rfl) (by decide)
theorem cw_L_70 : Vw RL 70 RX7 yX7_rule cX7_rule 5 (some .int) 3 := ⟨memW 532 (by decide +kernel) (by decide), memW 533 (by decide +kernel) (by decide), memW 534 (by decide +kernel) (by decide), memW 41 (by decide +kernel) (by decide), wc_X7_rule, rfl, by decide, by decide, by decide +kernel⟩
set_option maxRecDepth 100000 in
theorem wc_X7_mean : Cond.code yX7_mean cX7_mean 4 (some .long) ∈ tb := memW 539 (by rfl) (by decide)
theorem cw_L_74 : Vw RL 74 RX7 yX7_mean cX7_mean 4 (some .long) 2 := ⟨memW 536 (by decide +kernel) (by decide), memW 537 (by decide +kernel) (by decide), memW 538 (by decide +kernel) (by decide), memW 41 (by decide +kernel) (by decide), wc_X7_mean, rfl, by decide, by decide, by decide +kernel⟩
set_option maxRecDepth 100000 in
theorem wc_X5_go : Cond.code yX5_go cX5_go 5 none ∈ tb := memW 543 (by rfl) (by decide)
theorem cw_X7_186 : Vw RX7 186 RX5 yX5_go cX5_go 5 none 2 := ⟨memW 540 (by decide +kernel) (by decide), memW 541 (by decide +kernel) (by decide), memW 542 (by decide +kernel) (by decide), memW 48 (by decide +kernel) (by decide), wc_X5_go, rfl, by decide, by decide, by decide +kernel⟩
set_option maxRecDepth 100000 in
theorem wc_X5_stepTo : Cond.code yX5_stepTo cX5_stepTo 4 none ∈ tb := memW 547 (by rfl) (by decide)
theorem cw_X5_52 : Vw RX5 52 RX5 yX5_stepTo cX5_stepTo 4 none 2 := ⟨memW 544 (by decide +kernel) (by decide), memW 546 (by decide +kernel) (by decide), memW 6 (by decide +kernel) (by decide), memW 48 (by decide +kernel) (by decide), wc_X5_stepTo, rfl, by decide, by decide, by decide +kernel⟩
set_option maxRecDepth 100000 in
theorem wc_X4_ruleLets : Cond.code yX4_ruleLets cX4_ruleLets 4 (some .int) ∈ tb := memW 551 (by rfl) (by decide)
theorem cw_X5_56 : Vw RX5 56 RX4 yX4_ruleLets cX4_ruleLets 4 (some .int) 1 := ⟨memW 548 (by decide +kernel) (by decide), memW 549 (by decide +kernel) (by decide), memW 550 (by decide +kernel) (by decide), memW 42 (by decide +kernel) (by decide), wc_X4_ruleLets, rfl, by decide, by decide, by decide +kernel⟩
set_option maxRecDepth 100000 in
theorem wc_X0_ruleLet : Cond.code yX0_ruleLet cX0_ruleLet 3 (some .int) ∈ tb := memW 555 (by rfl) (by decide)
theorem cw_X4_57 : Vw RX4 57 RX0 yX0_ruleLet cX0_ruleLet 3 (some .int) 1 := ⟨memW 552 (by decide +kernel) (by decide), memW 553 (by decide +kernel) (by decide), memW 554 (by decide +kernel) (by decide), memW 43 (by decide +kernel) (by decide), wc_X0_ruleLet, rfl, by decide, by decide, by decide +kernel⟩
theorem cw_X0_59 : Vw RX0 59 RX0 yX0_mostLet cX0_mostLet 2 (some .int) 1 := ⟨memW 556 (by decide +kernel) (by decide), memW 474 (by decide +kernel) (by decide), memW 475 (by decide +kernel) (by decide), memW 43 (by decide +kernel) (by decide), wc_X0_mostLet, rfl, by decide, by decide, by decide +kernel⟩
theorem cw_X5_66 : Vw RX5 66 RX4 yX4_flow cX4_flow 10 (some .int) 3 := ⟨memW 557 (by decide +kernel) (by decide), memW 502 (by decide +kernel) (by decide), memW 503 (by decide +kernel) (by decide), memW 42 (by decide +kernel) (by decide), wc_X4_flow, rfl, by decide, by decide, by decide +kernel⟩
theorem cw_X5_70 : Vw RX5 70 RX3 yX3_priceFrom cX3_priceFrom 3 (some .int) 1 := ⟨memW 558 (by decide +kernel) (by decide), memW 469 (by decide +kernel) (by decide), memW 470 (by decide +kernel) (by decide), memW 45 (by decide +kernel) (by decide), wc_X3_priceFrom, rfl, by decide, by decide, by decide +kernel⟩
set_option maxRecDepth 100000 in
theorem wc_X4_headsTimesLets : Cond.code yX4_headsTimesLets cX4_headsTimesLets 5 (some .int) ∈ tb := memW 562 (by rfl) (by decide)
theorem cw_X5_74 : Vw RX5 74 RX4 yX4_headsTimesLets cX4_headsTimesLets 5 (some .int) 2 := ⟨memW 559 (by decide +kernel) (by decide), memW 560 (by decide +kernel) (by decide), memW 561 (by decide +kernel) (by decide), memW 42 (by decide +kernel) (by decide), wc_X4_headsTimesLets, rfl, by decide, by decide, by decide +kernel⟩
theorem cw_X4_60 : Vw RX4 60 RX0 yX0_headAt cX0_headAt 2 (some .int) 1 := ⟨memW 563 (by decide +kernel) (by decide), memW 353 (by decide +kernel) (by decide), memW 354 (by decide +kernel) (by decide), memW 43 (by decide +kernel) (by decide), wc_X0_headAt, rfl, by decide, by decide, by decide +kernel⟩
set_option maxRecDepth 100000 in
theorem wc_X4_isBelowLeast : Cond.code yX4_isBelowLeast cX4_isBelowLeast 3 (some .boolean) ∈ tb := memW 567 (by rfl) (by decide)
theorem cw_X5_81 : Vw RX5 81 RX4 yX4_isBelowLeast cX4_isBelowLeast 3 (some .boolean) 1 := ⟨memW 564 (by decide +kernel) (by decide), memW 565 (by decide +kernel) (by decide), memW 566 (by decide +kernel) (by decide), memW 42 (by decide +kernel) (by decide), wc_X4_isBelowLeast, rfl, by decide, by decide, by decide +kernel⟩
set_option maxRecDepth 100000 in
theorem wc_X5_meanOfCases : Cond.code yX5_meanOfCases cX5_meanOfCases 5 (some .long) ∈ tb := memW 571 (by rfl) (by decide)
theorem cw_X7_190 : Vw RX7 190 RX5 yX5_meanOfCases cX5_meanOfCases 5 (some .long) 0 := ⟨memW 568 (by decide +kernel) (by decide), memW 569 (by decide +kernel) (by decide), memW 570 (by decide +kernel) (by decide), memW 48 (by decide +kernel) (by decide), wc_X5_meanOfCases, rfl, by decide, by decide, by decide +kernel⟩
set_option maxRecDepth 100000 in
theorem wc_X5_endsCase : Cond.code yX5_endsCase cX5_endsCase 2 (some .boolean) ∈ tb := memW 575 (by rfl) (by decide)
theorem cw_X5_93 : Vw RX5 93 RX5 yX5_endsCase cX5_endsCase 2 (some .boolean) 1 := ⟨memW 572 (by decide +kernel) (by decide), memW 574 (by decide +kernel) (by decide), memW 7 (by decide +kernel) (by decide), memW 48 (by decide +kernel) (by decide), wc_X5_endsCase, rfl, by decide, by decide, by decide +kernel⟩
theorem cw_X5_85 : Vw RX5 85 RX3 yX3_isLast cX3_isLast 2 (some .boolean) 1 := ⟨memW 576 (by decide +kernel) (by decide), memW 386 (by decide +kernel) (by decide), memW 387 (by decide +kernel) (by decide), memW 45 (by decide +kernel) (by decide), wc_X3_isLast, rfl, by decide, by decide, by decide +kernel⟩
set_option maxRecDepth 100000 in
theorem wc_X5_totalOf : Cond.code yX5_totalOf cX5_totalOf 2 (some .long) ∈ tb := memW 580 (by rfl) (by decide)
theorem cw_X5_96 : Vw RX5 96 RX5 yX5_totalOf cX5_totalOf 2 (some .long) 1 := ⟨memW 577 (by decide +kernel) (by decide), memW 579 (by decide +kernel) (by decide), memW 8 (by decide +kernel) (by decide), memW 48 (by decide +kernel) (by decide), wc_X5_totalOf, rfl, by decide, by decide, by decide +kernel⟩
theorem cw_X5_89 : Vw RX5 89 RX4 yX4_endWorth cX4_endWorth 5 (some .long) 1 := ⟨memW 581 (by decide +kernel) (by decide), memW 444 (by decide +kernel) (by decide), memW 445 (by decide +kernel) (by decide), memW 42 (by decide +kernel) (by decide), wc_X4_endWorth, rfl, by decide, by decide, by decide +kernel⟩
set_option maxRecDepth 100000 in
theorem wc_X7_worst : Cond.code yX7_worst cX7_worst 4 (some .long) ∈ tb := memW 585 (by rfl) (by decide)
theorem cw_L_78 : Vw RL 78 RX7 yX7_worst cX7_worst 4 (some .long) 2 := ⟨memW 582 (by decide +kernel) (by decide), memW 583 (by decide +kernel) (by decide), memW 584 (by decide +kernel) (by decide), memW 41 (by decide +kernel) (by decide), wc_X7_worst, rfl, by decide, by decide, by decide +kernel⟩
set_option maxRecDepth 100000 in
theorem wc_X5_leastOfCases : Cond.code yX5_leastOfCases cX5_leastOfCases 5 (some .long) ∈ tb := memW 589 (by rfl) (by decide)
theorem cw_X7_194 : Vw RX7 194 RX5 yX5_leastOfCases cX5_leastOfCases 5 (some .long) 0 := ⟨memW 586 (by decide +kernel) (by decide), memW 587 (by decide +kernel) (by decide), memW 588 (by decide +kernel) (by decide), memW 48 (by decide +kernel) (by decide), wc_X5_leastOfCases, rfl, by decide, by decide, by decide +kernel⟩
theorem kc_X5_100 : Cond.constantLong RX5 100 (-1) ∈ tb := memW 590 (by decide +kernel) (by decide)
set_option maxRecDepth 100000 in
theorem wc_X7_lack : Cond.code yX7_lack cX7_lack 4 (some .int) ∈ tb := memW 594 (by rfl) (by decide)
theorem cw_L_82 : Vw RL 82 RX7 yX7_lack cX7_lack 4 (some .int) 2 := ⟨memW 591 (by decide +kernel) (by decide), memW 592 (by decide +kernel) (by decide), memW 593 (by decide +kernel) (by decide), memW 41 (by decide +kernel) (by decide), wc_X7_lack, rfl, by decide, by decide, by decide +kernel⟩
set_option maxRecDepth 100000 in
theorem wc_X5_casesOfLack : Cond.code yX5_casesOfLack cX5_casesOfLack 3 (some .int) ∈ tb := memW 598 (by rfl) (by decide)
theorem cw_X7_197 : Vw RX7 197 RX5 yX5_casesOfLack cX5_casesOfLack 3 (some .int) 0 := ⟨memW 595 (by decide +kernel) (by decide), memW 596 (by decide +kernel) (by decide), memW 597 (by decide +kernel) (by decide), memW 48 (by decide +kernel) (by decide), wc_X5_casesOfLack, rfl, by decide, by decide, by decide +kernel⟩
set_option maxRecDepth 100000 in
theorem wc_X7_flood : Cond.code yX7_flood cX7_flood 6 (some .int) ∈ tb := memW 602 (by rfl) (by decide)
theorem cw_L_86 : Vw RL 86 RX7 yX7_flood cX7_flood 6 (some .int) 4 := ⟨memW 599 (by decide +kernel) (by decide), memW 600 (by decide +kernel) (by decide), memW 601 (by decide +kernel) (by decide), memW 41 (by decide +kernel) (by decide), wc_X7_flood, rfl, by decide, by decide, by decide +kernel⟩
set_option maxRecDepth 100000 in
theorem wc_X5_casesOfFlood : Cond.code yX5_casesOfFlood cX5_casesOfFlood 6 (some .int) ∈ tb := memW 606 (by rfl) (by decide)
theorem cw_X7_200 : Vw RX7 200 RX5 yX5_casesOfFlood cX5_casesOfFlood 6 (some .int) 3 := ⟨memW 603 (by decide +kernel) (by decide), memW 604 (by decide +kernel) (by decide), memW 605 (by decide +kernel) (by decide), memW 48 (by decide +kernel) (by decide), wc_X5_casesOfFlood, rfl, by decide, by decide, by decide +kernel⟩
set_option maxRecDepth 100000 in
theorem wc_X5_stoodAbove : Cond.code yX5_stoodAbove cX5_stoodAbove 7 (some .boolean) ∈ tb := memW 610 (by rfl) (by decide)
theorem cw_X5_102 : Vw RX5 102 RX5 yX5_stoodAbove cX5_stoodAbove 7 (some .boolean) 4 := ⟨memW 607 (by decide +kernel) (by decide), memW 609 (by decide +kernel) (by decide), memW 9 (by decide +kernel) (by decide), memW 48 (by decide +kernel) (by decide), wc_X5_stoodAbove, rfl, by decide, by decide, by decide +kernel⟩
theorem cw_X5_109 : Vw RX5 109 RX4 yX4_measureOf cX4_measureOf 5 (some .int) 2 := ⟨memW 611 (by decide +kernel) (by decide), memW 448 (by decide +kernel) (by decide), memW 449 (by decide +kernel) (by decide), memW 42 (by decide +kernel) (by decide), wc_X4_measureOf, rfl, by decide, by decide, by decide +kernel⟩
set_option maxRecDepth 100000 in
theorem wc_X7_cases : Cond.code yX7_cases cX7_cases 3 (some .int) ∈ tb := memW 615 (by rfl) (by decide)
theorem cw_L_90 : Vw RL 90 RX7 yX7_cases cX7_cases 3 (some .int) 1 := ⟨memW 612 (by decide +kernel) (by decide), memW 613 (by decide +kernel) (by decide), memW 614 (by decide +kernel) (by decide), memW 41 (by decide +kernel) (by decide), wc_X7_cases, rfl, by decide, by decide, by decide +kernel⟩
set_option maxRecDepth 100000 in
theorem wc_X5_allCases : Cond.code yX5_allCases cX5_allCases 3 (some .int) ∈ tb := memW 619 (by rfl) (by decide)
theorem cw_X7_204 : Vw RX7 204 RX5 yX5_allCases cX5_allCases 3 (some .int) 0 := ⟨memW 616 (by decide +kernel) (by decide), memW 617 (by decide +kernel) (by decide), memW 618 (by decide +kernel) (by decide), memW 48 (by decide +kernel) (by decide), wc_X5_allCases, rfl, by decide, by decide, by decide +kernel⟩
set_option maxRecDepth 100000 in
theorem wc_X7_begin : Cond.code yX7_begin cX7_begin 2 (some .int) ∈ tb := memW 623 (by rfl) (by decide)
theorem cw_L_94 : Vw RL 94 RX7 yX7_begin cX7_begin 2 (some .int) 1 := ⟨memW 620 (by decide +kernel) (by decide), memW 621 (by decide +kernel) (by decide), memW 622 (by decide +kernel) (by decide), memW 41 (by decide +kernel) (by decide), wc_X7_begin, rfl, by decide, by decide, by decide +kernel⟩
set_option maxRecDepth 100000 in
theorem wc_X2_startAt : Cond.code yX2_startAt cX2_startAt 3 none ∈ tb := memW 627 (by rfl) (by decide)
theorem cw_X7_207 : Vw RX7 207 RX2 yX2_startAt cX2_startAt 3 none 2 := ⟨memW 624 (by decide +kernel) (by decide), memW 625 (by decide +kernel) (by decide), memW 626 (by decide +kernel) (by decide), memW 49 (by decide +kernel) (by decide), wc_X2_startAt, rfl, by decide, by decide, by decide +kernel⟩
set_option maxRecDepth 100000 in
theorem wc_X7_week : Cond.code yX7_week cX7_week 5 (some .int) ∈ tb := memW 631 (by rfl) (by decide)
theorem cw_L_98 : Vw RL 98 RX7 yX7_week cX7_week 5 (some .int) 2 := ⟨memW 628 (by decide +kernel) (by decide), memW 629 (by decide +kernel) (by decide), memW 630 (by decide +kernel) (by decide), memW 41 (by decide +kernel) (by decide), wc_X7_week, rfl, by decide, by decide, by decide +kernel⟩
set_option maxRecDepth 100000 in
theorem wc_X7_refusalOfWeek : Cond.code yX7_refusalOfWeek cX7_refusalOfWeek 2 (some .int) ∈ tb := memW 635 (by rfl) (by decide)
theorem cw_X7_210 : Vw RX7 210 RX7 yX7_refusalOfWeek cX7_refusalOfWeek 2 (some .int) 1 := ⟨memW 632 (by decide +kernel) (by decide), memW 634 (by decide +kernel) (by decide), memW 10 (by decide +kernel) (by decide), memW 41 (by decide +kernel) (by decide), wc_X7_refusalOfWeek, rfl, by decide, by decide, by decide +kernel⟩
theorem cw_X7_252 : Vw RX7 252 RX1 yX1_childAt cX1_childAt 2 (some (.object "LakeChain$Node")) 1 := ⟨memW 636 (by decide +kernel) (by decide), memW 498 (by decide +kernel) (by decide), memW 499 (by decide +kernel) (by decide), memW 46 (by decide +kernel) (by decide), wc_X1_childAt, rfl, by decide, by decide, by decide +kernel⟩
set_option maxRecDepth 100000 in
theorem wc_X4_mostLets : Cond.code yX4_mostLets cX4_mostLets 1 (some .int) ∈ tb := memW 640 (by rfl) (by decide)
theorem cw_X7_213 : Vw RX7 213 RX4 yX4_mostLets cX4_mostLets 1 (some .int) 0 := ⟨memW 637 (by decide +kernel) (by decide), memW 638 (by decide +kernel) (by decide), memW 639 (by decide +kernel) (by decide), memW 42 (by decide +kernel) (by decide), wc_X4_mostLets, rfl, by decide, by decide, by decide +kernel⟩
set_option maxRecDepth 100000 in
theorem wc_X4_allLets : Cond.code yX4_allLets cX4_allLets 2 (some .int) ∈ tb := memW 644 (by rfl) (by decide)
theorem cw_X7_216 : Vw RX7 216 RX4 yX4_allLets cX4_allLets 2 (some .int) 1 := ⟨memW 641 (by decide +kernel) (by decide), memW 642 (by decide +kernel) (by decide), memW 643 (by decide +kernel) (by decide), memW 42 (by decide +kernel) (by decide), wc_X4_allLets, rfl, by decide, by decide, by decide +kernel⟩
set_option maxRecDepth 100000 in
theorem wc_X2_stateNow : Cond.code yX2_stateNow cX2_stateNow 1 (some .int) ∈ tb := memW 648 (by rfl) (by decide)
theorem cw_X7_219 : Vw RX7 219 RX2 yX2_stateNow cX2_stateNow 1 (some .int) 0 := ⟨memW 645 (by decide +kernel) (by decide), memW 646 (by decide +kernel) (by decide), memW 647 (by decide +kernel) (by decide), memW 49 (by decide +kernel) (by decide), wc_X2_stateNow, rfl, by decide, by decide, by decide +kernel⟩
set_option maxRecDepth 100000 in
theorem wc_X4_mayLet : Cond.code yX4_mayLet cX4_mayLet 6 (some .boolean) ∈ tb := memW 652 (by rfl) (by decide)
theorem cw_X7_222 : Vw RX7 222 RX4 yX4_mayLet cX4_mayLet 6 (some .boolean) 2 := ⟨memW 649 (by decide +kernel) (by decide), memW 650 (by decide +kernel) (by decide), memW 651 (by decide +kernel) (by decide), memW 42 (by decide +kernel) (by decide), wc_X4_mayLet, rfl, by decide, by decide, by decide +kernel⟩
theorem cw_X4_50 : Vw RX4 50 RX0 yX0_leastLet cX0_leastLet 2 (some .int) 1 := ⟨memW 653 (by decide +kernel) (by decide), memW 478 (by decide +kernel) (by decide), memW 479 (by decide +kernel) (by decide), memW 43 (by decide +kernel) (by decide), wc_X0_leastLet, rfl, by decide, by decide, by decide +kernel⟩
theorem cw_X4_54 : Vw RX4 54 RX0 yX0_mostLet cX0_mostLet 2 (some .int) 1 := ⟨memW 654 (by decide +kernel) (by decide), memW 474 (by decide +kernel) (by decide), memW 475 (by decide +kernel) (by decide), memW 43 (by decide +kernel) (by decide), wc_X0_mostLet, rfl, by decide, by decide, by decide +kernel⟩
set_option maxRecDepth 100000 in
theorem wc_X7_letWeek : Cond.code yX7_letWeek cX7_letWeek 6 (some .int) ∈ tb := memW 658 (by rfl) (by decide)
theorem cw_X7_225 : Vw RX7 225 RX7 yX7_letWeek cX7_letWeek 6 (some .int) 2 := ⟨memW 655 (by decide +kernel) (by decide), memW 657 (by decide +kernel) (by decide), memW 11 (by decide +kernel) (by decide), memW 41 (by decide +kernel) (by decide), wc_X7_letWeek, rfl, by decide, by decide, by decide +kernel⟩
theorem cw_X7_255 : Vw RX7 255 RX3 yX3_priceFrom cX3_priceFrom 3 (some .int) 1 := ⟨memW 659 (by decide +kernel) (by decide), memW 469 (by decide +kernel) (by decide), memW 470 (by decide +kernel) (by decide), memW 45 (by decide +kernel) (by decide), wc_X3_priceFrom, rfl, by decide, by decide, by decide +kernel⟩
theorem cw_X7_259 : Vw RX7 259 RX4 yX4_headsTimesLets cX4_headsTimesLets 5 (some .int) 2 := ⟨memW 660 (by decide +kernel) (by decide), memW 560 (by decide +kernel) (by decide), memW 561 (by decide +kernel) (by decide), memW 42 (by decide +kernel) (by decide), wc_X4_headsTimesLets, rfl, by decide, by decide, by decide +kernel⟩
theorem cw_X7_262 : Vw RX7 262 RX4 yX4_flow cX4_flow 10 (some .int) 3 := ⟨memW 661 (by decide +kernel) (by decide), memW 502 (by decide +kernel) (by decide), memW 503 (by decide +kernel) (by decide), memW 42 (by decide +kernel) (by decide), wc_X4_flow, rfl, by decide, by decide, by decide +kernel⟩
set_option maxRecDepth 100000 in
theorem wc_X2_goOn : Cond.code yX2_goOn cX2_goOn 7 none ∈ tb := memW 665 (by rfl) (by decide)
theorem cw_X7_268 : Vw RX7 268 RX2 yX2_goOn cX2_goOn 7 none 5 := ⟨memW 662 (by decide +kernel) (by decide), memW 663 (by decide +kernel) (by decide), memW 664 (by decide +kernel) (by decide), memW 49 (by decide +kernel) (by decide), wc_X2_goOn, rfl, by decide, by decide, by decide +kernel⟩
set_option maxRecDepth 100000 in
theorem wc_X1_sumIn : Cond.code yX1_sumIn cX1_sumIn 3 (some .int) ∈ tb := memW 669 (by rfl) (by decide)
theorem cw_X2_39 : Vw RX2 39 RX1 yX1_sumIn cX1_sumIn 3 (some .int) 0 := ⟨memW 666 (by decide +kernel) (by decide), memW 667 (by decide +kernel) (by decide), memW 668 (by decide +kernel) (by decide), memW 46 (by decide +kernel) (by decide), wc_X1_sumIn, rfl, by decide, by decide, by decide +kernel⟩
set_option maxRecDepth 100000 in
theorem wc_X7_best : Cond.code yX7_best cX7_best 3 (some .int) ∈ tb := memW 673 (by rfl) (by decide)
theorem cw_L_102 : Vw RL 102 RX7 yX7_best cX7_best 3 (some .int) 1 := ⟨memW 670 (by decide +kernel) (by decide), memW 671 (by decide +kernel) (by decide), memW 672 (by decide +kernel) (by decide), memW 41 (by decide +kernel) (by decide), wc_X7_best, rfl, by decide, by decide, by decide +kernel⟩
set_option maxRecDepth 100000 in
theorem wc_X7_ruled : Cond.code yX7_ruled cX7_ruled 3 (some .int) ∈ tb := memW 677 (by rfl) (by decide)
theorem cw_L_106 : Vw RL 106 RX7 yX7_ruled cX7_ruled 3 (some .int) 1 := ⟨memW 674 (by decide +kernel) (by decide), memW 675 (by decide +kernel) (by decide), memW 676 (by decide +kernel) (by decide), memW 41 (by decide +kernel) (by decide), wc_X7_ruled, rfl, by decide, by decide, by decide +kernel⟩
theorem cw_X7_231 : Vw RX7 231 RX4 yX4_ruleLets cX4_ruleLets 4 (some .int) 1 := ⟨memW 678 (by decide +kernel) (by decide), memW 549 (by decide +kernel) (by decide), memW 550 (by decide +kernel) (by decide), memW 42 (by decide +kernel) (by decide), wc_X4_ruleLets, rfl, by decide, by decide, by decide +kernel⟩
set_option maxRecDepth 100000 in
theorem wc_X7_undo : Cond.code yX7_undo cX7_undo 1 (some .int) ∈ tb := memW 682 (by rfl) (by decide)
theorem cw_L_110 : Vw RL 110 RX7 yX7_undo cX7_undo 1 (some .int) 0 := ⟨memW 679 (by decide +kernel) (by decide), memW 680 (by decide +kernel) (by decide), memW 681 (by decide +kernel) (by decide), memW 41 (by decide +kernel) (by decide), wc_X7_undo, rfl, by decide, by decide, by decide +kernel⟩
set_option maxRecDepth 100000 in
theorem wc_X7_stop : Cond.code yX7_stop cX7_stop 1 (some .int) ∈ tb := memW 686 (by rfl) (by decide)
theorem cw_L_115 : Vw RL 115 RX7 yX7_stop cX7_stop 1 (some .int) 0 := ⟨memW 683 (by decide +kernel) (by decide), memW 684 (by decide +kernel) (by decide), memW 685 (by decide +kernel) (by decide), memW 41 (by decide +kernel) (by decide), wc_X7_stop, rfl, by decide, by decide, by decide +kernel⟩
set_option maxRecDepth 100000 in
theorem wc_X7_now : Cond.code yX7_now cX7_now 2 (some .int) ∈ tb := memW 690 (by rfl) (by decide)
theorem cw_L_119 : Vw RL 119 RX7 yX7_now cX7_now 2 (some .int) 1 := ⟨memW 687 (by decide +kernel) (by decide), memW 688 (by decide +kernel) (by decide), memW 689 (by decide +kernel) (by decide), memW 41 (by decide +kernel) (by decide), wc_X7_now, rfl, by decide, by decide, by decide +kernel⟩
theorem kl_L_10 : Cond.classLink RL 10 RX8 ∈ tb := memW 691 (by decide +kernel) (by decide)
theorem nw_L_10 : Nw RL 10 8 := ⟨_, _, _, _, cf8, kl_L_10, memW 692 (by decide +kernel) (by decide), memW 50 (by decide +kernel) (by decide), by decide +kernel⟩
set_option maxRecDepth 100000 in
theorem wc_X8_init : Cond.code yX8_init cX8_init 1 none ∈ tb := memW 695 (by rfl) (by decide)
theorem cw_L_12 : Iw RL 12 yX8_init cX8_init 1 0 := ⟨memW 693 (by decide +kernel) (by decide), memW 694 (by decide +kernel) (by decide), memW 50 (by decide +kernel) (by decide), wc_X8_init, rfl, by decide, by decide, by decide +kernel⟩
set_option maxRecDepth 100000 in
theorem ow_X8_7 : Cond.methodLink RX8 7 objectInit ∈ tb ∧ Cond.instanceMethod objectInit ∈ tb ∧ Cond.code objectInit ⟨#[0xb1]⟩ 1 none ∈ tb := ⟨memW 696 (by decide +kernel) (by decide), memW 58 (by decide +kernel) (by decide), memW 59 (by rfl) (by decide)⟩
theorem kc_X8_62 : Cond.constant RX8 62 81000 ∈ tb := memW 697 (by decide +kernel) (by decide)
set_option maxRecDepth 100000 in
theorem wc_X8_lake : Cond.code yX8_lake cX8_lake 7 (some .int) ∈ tb := memW 822 (by rfl) (by decide)
theorem cw_L_17 : Vw RL 17 RX8 yX8_lake cX8_lake 7 (some .int) 4 := ⟨memW 819 (by decide +kernel) (by decide), memW 820 (by decide +kernel) (by decide), memW 821 (by decide +kernel) (by decide), memW 50 (by decide +kernel) (by decide), wc_X8_lake, rfl, by decide, by decide, by decide +kernel⟩
set_option maxRecDepth 100000 in
theorem wc_X8_in : Cond.code yX8_in cX8_in 3 (some .boolean) ∈ tb := memW 825 (by rfl) (by decide)
theorem cw_X8_122 : Sw RX8 122 yX8_in cX8_in 3 (some .boolean) 3 := ⟨memW 823 (by decide +kernel) (by decide), memW 824 (by decide +kernel) (by decide), memW 50 (by decide +kernel) (by decide), wc_X8_in, by decide, by decide, by decide +kernel⟩
set_option maxRecDepth 100000 in
theorem wc_X8_states : Cond.code yX8_states cX8_states 3 (some .int) ∈ tb := memW 829 (by rfl) (by decide)
theorem cw_X8_126 : Vw RX8 126 RX8 yX8_states cX8_states 3 (some .int) 0 := ⟨memW 826 (by decide +kernel) (by decide), memW 828 (by decide +kernel) (by decide), memW 12 (by decide +kernel) (by decide), memW 50 (by decide +kernel) (by decide), wc_X8_states, rfl, by decide, by decide, by decide +kernel⟩
set_option maxRecDepth 100000 in
theorem wc_X8_forget : Cond.code yX8_forget cX8_forget 1 none ∈ tb := memW 833 (by rfl) (by decide)
theorem cw_X8_137 : Vw RX8 137 RX8 yX8_forget cX8_forget 1 none 0 := ⟨memW 830 (by decide +kernel) (by decide), memW 832 (by decide +kernel) (by decide), memW 13 (by decide +kernel) (by decide), memW 50 (by decide +kernel) (by decide), wc_X8_forget, rfl, by decide, by decide, by decide +kernel⟩
set_option maxRecDepth 100000 in
theorem wc_X8_head : Cond.code yX8_head cX8_head 5 (some .int) ∈ tb := memW 837 (by rfl) (by decide)
theorem cw_L_22 : Vw RL 22 RX8 yX8_head cX8_head 5 (some .int) 3 := ⟨memW 834 (by decide +kernel) (by decide), memW 835 (by decide +kernel) (by decide), memW 836 (by decide +kernel) (by decide), memW 50 (by decide +kernel) (by decide), wc_X8_head, rfl, by decide, by decide, by decide +kernel⟩
set_option maxRecDepth 100000 in
theorem wc_X8_isLake : Cond.code yX8_isLake cX8_isLake 2 (some .boolean) ∈ tb := memW 841 (by rfl) (by decide)
theorem cw_X8_140 : Vw RX8 140 RX8 yX8_isLake cX8_isLake 2 (some .boolean) 1 := ⟨memW 838 (by decide +kernel) (by decide), memW 840 (by decide +kernel) (by decide), memW 14 (by decide +kernel) (by decide), memW 50 (by decide +kernel) (by decide), wc_X8_isLake, rfl, by decide, by decide, by decide +kernel⟩
set_option maxRecDepth 100000 in
theorem wc_X8_end : Cond.code yX8_end cX8_end 4 (some .int) ∈ tb := memW 845 (by rfl) (by decide)
theorem cw_L_27 : Vw RL 27 RX8 yX8_end cX8_end 4 (some .int) 2 := ⟨memW 842 (by decide +kernel) (by decide), memW 843 (by decide +kernel) (by decide), memW 844 (by decide +kernel) (by decide), memW 50 (by decide +kernel) (by decide), wc_X8_end, rfl, by decide, by decide, by decide +kernel⟩
set_option maxRecDepth 100000 in
theorem wc_X8_weeks : Cond.code yX8_weeks cX8_weeks 3 (some .int) ∈ tb := memW 849 (by rfl) (by decide)
theorem cw_L_31 : Vw RL 31 RX8 yX8_weeks cX8_weeks 3 (some .int) 2 := ⟨memW 846 (by decide +kernel) (by decide), memW 847 (by decide +kernel) (by decide), memW 848 (by decide +kernel) (by decide), memW 50 (by decide +kernel) (by decide), wc_X8_weeks, rfl, by decide, by decide, by decide +kernel⟩
set_option maxRecDepth 100000 in
theorem wc_X8_price : Cond.code yX8_price cX8_price 4 (some .int) ∈ tb := memW 853 (by rfl) (by decide)
theorem cw_L_35 : Vw RL 35 RX8 yX8_price cX8_price 4 (some .int) 2 := ⟨memW 850 (by decide +kernel) (by decide), memW 851 (by decide +kernel) (by decide), memW 852 (by decide +kernel) (by decide), memW 50 (by decide +kernel) (by decide), wc_X8_price, rfl, by decide, by decide, by decide +kernel⟩
set_option maxRecDepth 100000 in
theorem wc_X8_node : Cond.code yX8_node cX8_node 8 (some .int) ∈ tb := memW 857 (by rfl) (by decide)
theorem cw_L_39 : Vw RL 39 RX8 yX8_node cX8_node 8 (some .int) 3 := ⟨memW 854 (by decide +kernel) (by decide), memW 855 (by decide +kernel) (by decide), memW 856 (by decide +kernel) (by decide), memW 50 (by decide +kernel) (by decide), wc_X8_node, rfl, by decide, by decide, by decide +kernel⟩
set_option maxRecDepth 100000 in
theorem wc_X8_isNode : Cond.code yX8_isNode cX8_isNode 2 (some .boolean) ∈ tb := memW 861 (by rfl) (by decide)
theorem cw_X8_144 : Vw RX8 144 RX8 yX8_isNode cX8_isNode 2 (some .boolean) 1 := ⟨memW 858 (by decide +kernel) (by decide), memW 860 (by decide +kernel) (by decide), memW 15 (by decide +kernel) (by decide), memW 50 (by decide +kernel) (by decide), wc_X8_isNode, rfl, by decide, by decide, by decide +kernel⟩
set_option maxRecDepth 100000 in
theorem wc_X8_weightsOf : Cond.code yX8_weightsOf cX8_weightsOf 4 (some .int) ∈ tb := memW 865 (by rfl) (by decide)
theorem cw_X8_147 : Vw RX8 147 RX8 yX8_weightsOf cX8_weightsOf 4 (some .int) 1 := ⟨memW 862 (by decide +kernel) (by decide), memW 864 (by decide +kernel) (by decide), memW 16 (by decide +kernel) (by decide), memW 50 (by decide +kernel) (by decide), wc_X8_weightsOf, rfl, by decide, by decide, by decide +kernel⟩
set_option maxRecDepth 100000 in
theorem wc_X8_about : Cond.code yX8_about cX8_about 5 (some .int) ∈ tb := memW 869 (by rfl) (by decide)
theorem cw_L_43 : Vw RL 43 RX8 yX8_about cX8_about 5 (some .int) 2 := ⟨memW 866 (by decide +kernel) (by decide), memW 867 (by decide +kernel) (by decide), memW 868 (by decide +kernel) (by decide), memW 50 (by decide +kernel) (by decide), wc_X8_about, rfl, by decide, by decide, by decide +kernel⟩
set_option maxRecDepth 100000 in
theorem wc_X8_count : Cond.code yX8_count cX8_count 2 (some .int) ∈ tb := memW 873 (by rfl) (by decide)
theorem cw_L_48 : Vw RL 48 RX8 yX8_count cX8_count 2 (some .int) 1 := ⟨memW 870 (by decide +kernel) (by decide), memW 871 (by decide +kernel) (by decide), memW 872 (by decide +kernel) (by decide), memW 50 (by decide +kernel) (by decide), wc_X8_count, rfl, by decide, by decide, by decide +kernel⟩
set_option maxRecDepth 100000 in
theorem wc_X8_isWhole : Cond.code yX8_isWhole cX8_isWhole 2 (some .boolean) ∈ tb := memW 877 (by rfl) (by decide)
theorem cw_X8_151 : Vw RX8 151 RX8 yX8_isWhole cX8_isWhole 2 (some .boolean) 0 := ⟨memW 874 (by decide +kernel) (by decide), memW 876 (by decide +kernel) (by decide), memW 17 (by decide +kernel) (by decide), memW 50 (by decide +kernel) (by decide), wc_X8_isWhole, rfl, by decide, by decide, by decide +kernel⟩
set_option maxRecDepth 100000 in
theorem wc_X8_worth : Cond.code yX8_worth cX8_worth 3 (some .long) ∈ tb := memW 881 (by rfl) (by decide)
theorem cw_L_53 : Vw RL 53 RX8 yX8_worth cX8_worth 3 (some .long) 2 := ⟨memW 878 (by decide +kernel) (by decide), memW 879 (by decide +kernel) (by decide), memW 880 (by decide +kernel) (by decide), memW 50 (by decide +kernel) (by decide), wc_X8_worth, rfl, by decide, by decide, by decide +kernel⟩
set_option maxRecDepth 100000 in
theorem wc_X8_isState : Cond.code yX8_isState cX8_isState 2 (some .boolean) ∈ tb := memW 885 (by rfl) (by decide)
theorem cw_X8_200 : Vw RX8 200 RX8 yX8_isState cX8_isState 2 (some .boolean) 1 := ⟨memW 882 (by decide +kernel) (by decide), memW 884 (by decide +kernel) (by decide), memW 18 (by decide +kernel) (by decide), memW 50 (by decide +kernel) (by decide), wc_X8_isState, rfl, by decide, by decide, by decide +kernel⟩
theorem kc_X8_203 : Cond.constantLong RX8 203 (-9000000000000000000) ∈ tb := memW 886 (by decide +kernel) (by decide)
set_option maxRecDepth 100000 in
theorem wc_X8_worthOf : Cond.code yX8_worthOf cX8_worthOf 3 (some .long) ∈ tb := memW 890 (by rfl) (by decide)
theorem cw_X8_205 : Vw RX8 205 RX8 yX8_worthOf cX8_worthOf 3 (some .long) 2 := ⟨memW 887 (by decide +kernel) (by decide), memW 889 (by decide +kernel) (by decide), memW 19 (by decide +kernel) (by decide), memW 50 (by decide +kernel) (by decide), wc_X8_worthOf, rfl, by decide, by decide, by decide +kernel⟩
set_option maxRecDepth 100000 in
theorem wc_X8_prepare : Cond.code yX8_prepare cX8_prepare 2 none ∈ tb := memW 894 (by rfl) (by decide)
theorem cw_X8_194 : Vw RX8 194 RX8 yX8_prepare cX8_prepare 2 none 0 := ⟨memW 891 (by decide +kernel) (by decide), memW 893 (by decide +kernel) (by decide), memW 20 (by decide +kernel) (by decide), memW 50 (by decide +kernel) (by decide), wc_X8_prepare, rfl, by decide, by decide, by decide +kernel⟩
set_option maxRecDepth 100000 in
theorem wc_X8_work : Cond.code yX8_work cX8_work 4 none ∈ tb := memW 898 (by rfl) (by decide)
theorem cw_X8_197 : Vw RX8 197 RX8 yX8_work cX8_work 4 none 1 := ⟨memW 895 (by decide +kernel) (by decide), memW 897 (by decide +kernel) (by decide), memW 21 (by decide +kernel) (by decide), memW 50 (by decide +kernel) (by decide), wc_X8_work, rfl, by decide, by decide, by decide +kernel⟩
set_option maxRecDepth 100000 in
theorem wc_X8_spread : Cond.code yX8_spread cX8_spread 5 none ∈ tb := memW 902 (by rfl) (by decide)
theorem cw_X8_168 : Vw RX8 168 RX8 yX8_spread cX8_spread 5 none 2 := ⟨memW 899 (by decide +kernel) (by decide), memW 901 (by decide +kernel) (by decide), memW 22 (by decide +kernel) (by decide), memW 50 (by decide +kernel) (by decide), wc_X8_spread, rfl, by decide, by decide, by decide +kernel⟩
set_option maxRecDepth 100000 in
theorem wc_X8_unfold : Cond.code yX8_unfold cX8_unfold 4 none ∈ tb := memW 906 (by rfl) (by decide)
theorem cw_X8_164 : Vw RX8 164 RX8 yX8_unfold cX8_unfold 4 none 1 := ⟨memW 903 (by decide +kernel) (by decide), memW 905 (by decide +kernel) (by decide), memW 23 (by decide +kernel) (by decide), memW 50 (by decide +kernel) (by decide), wc_X8_unfold, rfl, by decide, by decide, by decide +kernel⟩
set_option maxRecDepth 100000 in
theorem wc_X8_firstLets : Cond.code yX8_firstLets cX8_firstLets 2 none ∈ tb := memW 910 (by rfl) (by decide)
theorem cw_X8_175 : Vw RX8 175 RX8 yX8_firstLets cX8_firstLets 2 none 0 := ⟨memW 907 (by decide +kernel) (by decide), memW 909 (by decide +kernel) (by decide), memW 24 (by decide +kernel) (by decide), memW 50 (by decide +kernel) (by decide), wc_X8_firstLets, rfl, by decide, by decide, by decide +kernel⟩
set_option maxRecDepth 100000 in
theorem wc_X8_lowest : Cond.code yX8_lowest cX8_lowest 2 (some .int) ∈ tb := memW 914 (by rfl) (by decide)
theorem cw_X8_155 : Vw RX8 155 RX8 yX8_lowest cX8_lowest 2 (some .int) 1 := ⟨memW 911 (by decide +kernel) (by decide), memW 913 (by decide +kernel) (by decide), memW 25 (by decide +kernel) (by decide), memW 50 (by decide +kernel) (by decide), wc_X8_lowest, rfl, by decide, by decide, by decide +kernel⟩
set_option maxRecDepth 100000 in
theorem wc_X8_comes : Cond.code yX8_comes cX8_comes 6 (some .int) ∈ tb := memW 918 (by rfl) (by decide)
theorem cw_X8_178 : Vw RX8 178 RX8 yX8_comes cX8_comes 6 (some .int) 1 := ⟨memW 915 (by decide +kernel) (by decide), memW 917 (by decide +kernel) (by decide), memW 26 (by decide +kernel) (by decide), memW 50 (by decide +kernel) (by decide), wc_X8_comes, rfl, by decide, by decide, by decide +kernel⟩
set_option maxRecDepth 100000 in
theorem wc_X8_nextLets : Cond.code yX8_nextLets cX8_nextLets 2 (some .boolean) ∈ tb := memW 922 (by rfl) (by decide)
theorem cw_X8_181 : Vw RX8 181 RX8 yX8_nextLets cX8_nextLets 2 (some .boolean) 0 := ⟨memW 919 (by decide +kernel) (by decide), memW 921 (by decide +kernel) (by decide), memW 27 (by decide +kernel) (by decide), memW 50 (by decide +kernel) (by decide), wc_X8_nextLets, rfl, by decide, by decide, by decide +kernel⟩
set_option maxRecDepth 100000 in
theorem wc_X8_highest : Cond.code yX8_highest cX8_highest 4 (some .int) ∈ tb := memW 926 (by rfl) (by decide)
theorem cw_X8_161 : Vw RX8 161 RX8 yX8_highest cX8_highest 4 (some .int) 1 := ⟨memW 923 (by decide +kernel) (by decide), memW 925 (by decide +kernel) (by decide), memW 28 (by decide +kernel) (by decide), memW 50 (by decide +kernel) (by decide), wc_X8_highest, rfl, by decide, by decide, by decide +kernel⟩
set_option maxRecDepth 100000 in
theorem wc_X8_settle : Cond.code yX8_settle cX8_settle 11 none ∈ tb := memW 930 (by rfl) (by decide)
theorem cw_X8_172 : Vw RX8 172 RX8 yX8_settle cX8_settle 11 none 2 := ⟨memW 927 (by decide +kernel) (by decide), memW 929 (by decide +kernel) (by decide), memW 29 (by decide +kernel) (by decide), memW 50 (by decide +kernel) (by decide), wc_X8_settle, rfl, by decide, by decide, by decide +kernel⟩
set_option maxRecDepth 100000 in
theorem wc_X8_endOf : Cond.code yX8_endOf cX8_endOf 4 (some .int) ∈ tb := memW 934 (by rfl) (by decide)
theorem cw_X8_184 : Vw RX8 184 RX8 yX8_endOf cX8_endOf 4 (some .int) 1 := ⟨memW 931 (by decide +kernel) (by decide), memW 933 (by decide +kernel) (by decide), memW 30 (by decide +kernel) (by decide), memW 50 (by decide +kernel) (by decide), wc_X8_endOf, rfl, by decide, by decide, by decide +kernel⟩
set_option maxRecDepth 100000 in
theorem wc_X8_scale : Cond.code yX8_scale cX8_scale 5 (some .long) ∈ tb := memW 938 (by rfl) (by decide)
theorem cw_X8_187 : Vw RX8 187 RX8 yX8_scale cX8_scale 5 (some .long) 1 := ⟨memW 935 (by decide +kernel) (by decide), memW 937 (by decide +kernel) (by decide), memW 31 (by decide +kernel) (by decide), memW 50 (by decide +kernel) (by decide), wc_X8_scale, rfl, by decide, by decide, by decide +kernel⟩
set_option maxRecDepth 100000 in
theorem wc_X8_earns : Cond.code yX8_earns cX8_earns 4 (some .int) ∈ tb := memW 942 (by rfl) (by decide)
theorem cw_X8_191 : Vw RX8 191 RX8 yX8_earns cX8_earns 4 (some .int) 1 := ⟨memW 939 (by decide +kernel) (by decide), memW 941 (by decide +kernel) (by decide), memW 32 (by decide +kernel) (by decide), memW 50 (by decide +kernel) (by decide), wc_X8_earns, rfl, by decide, by decide, by decide +kernel⟩
set_option maxRecDepth 100000 in
theorem wc_X8_policy : Cond.code yX8_policy cX8_policy 4 (some .int) ∈ tb := memW 946 (by rfl) (by decide)
theorem cw_L_57 : Vw RL 57 RX8 yX8_policy cX8_policy 4 (some .int) 3 := ⟨memW 943 (by decide +kernel) (by decide), memW 944 (by decide +kernel) (by decide), memW 945 (by decide +kernel) (by decide), memW 50 (by decide +kernel) (by decide), wc_X8_policy, rfl, by decide, by decide, by decide +kernel⟩
set_option maxRecDepth 100000 in
theorem wc_X8_bestLet : Cond.code yX8_bestLet cX8_bestLet 6 none ∈ tb := memW 950 (by rfl) (by decide)
theorem cw_X8_209 : Vw RX8 209 RX8 yX8_bestLet cX8_bestLet 6 none 2 := ⟨memW 947 (by decide +kernel) (by decide), memW 949 (by decide +kernel) (by decide), memW 33 (by decide +kernel) (by decide), memW 50 (by decide +kernel) (by decide), wc_X8_bestLet, rfl, by decide, by decide, by decide +kernel⟩
set_option maxRecDepth 100000 in
theorem wc_X8_water : Cond.code yX8_water cX8_water 4 (some .long) ∈ tb := memW 954 (by rfl) (by decide)
theorem cw_L_62 : Vw RL 62 RX8 yX8_water cX8_water 4 (some .long) 3 := ⟨memW 951 (by decide +kernel) (by decide), memW 952 (by decide +kernel) (by decide), memW 953 (by decide +kernel) (by decide), memW 50 (by decide +kernel) (by decide), wc_X8_water, rfl, by decide, by decide, by decide +kernel⟩
set_option maxRecDepth 100000 in
theorem wc_X8_unit : Cond.code yX8_unit cX8_unit 4 (some .int) ∈ tb := memW 958 (by rfl) (by decide)
theorem cw_X8_212 : Vw RX8 212 RX8 yX8_unit cX8_unit 4 (some .int) 1 := ⟨memW 955 (by decide +kernel) (by decide), memW 957 (by decide +kernel) (by decide), memW 34 (by decide +kernel) (by decide), memW 50 (by decide +kernel) (by decide), wc_X8_unit, rfl, by decide, by decide, by decide +kernel⟩
set_option maxRecDepth 100000 in
theorem wc_X8_needs : Cond.code yX8_needs cX8_needs 9 (some .int) ∈ tb := memW 962 (by rfl) (by decide)
theorem cw_L_69 : Vw RL 69 RX8 yX8_needs cX8_needs 9 (some .int) 2 := ⟨memW 959 (by decide +kernel) (by decide), memW 960 (by decide +kernel) (by decide), memW 961 (by decide +kernel) (by decide), memW 50 (by decide +kernel) (by decide), wc_X8_needs, rfl, by decide, by decide, by decide +kernel⟩
set_option maxRecDepth 100000 in
theorem wc_X8_rule : Cond.code yX8_rule cX8_rule 4 (some .int) ∈ tb := memW 966 (by rfl) (by decide)
theorem cw_L_73 : Vw RL 73 RX8 yX8_rule cX8_rule 4 (some .int) 3 := ⟨memW 963 (by decide +kernel) (by decide), memW 964 (by decide +kernel) (by decide), memW 965 (by decide +kernel) (by decide), memW 50 (by decide +kernel) (by decide), wc_X8_rule, rfl, by decide, by decide, by decide +kernel⟩
set_option maxRecDepth 100000 in
theorem wc_X8_mean : Cond.code yX8_mean cX8_mean 5 (some .long) ∈ tb := memW 970 (by rfl) (by decide)
theorem cw_L_77 : Vw RL 77 RX8 yX8_mean cX8_mean 5 (some .long) 2 := ⟨memW 967 (by decide +kernel) (by decide), memW 968 (by decide +kernel) (by decide), memW 969 (by decide +kernel) (by decide), memW 50 (by decide +kernel) (by decide), wc_X8_mean, rfl, by decide, by decide, by decide +kernel⟩
set_option maxRecDepth 100000 in
theorem wc_X8_walk : Cond.code yX8_walk cX8_walk 5 none ∈ tb := memW 974 (by rfl) (by decide)
theorem cw_X8_218 : Vw RX8 218 RX8 yX8_walk cX8_walk 5 none 2 := ⟨memW 971 (by decide +kernel) (by decide), memW 973 (by decide +kernel) (by decide), memW 35 (by decide +kernel) (by decide), memW 50 (by decide +kernel) (by decide), wc_X8_walk, rfl, by decide, by decide, by decide +kernel⟩
set_option maxRecDepth 100000 in
theorem wc_X8_ruledLet : Cond.code yX8_ruledLet cX8_ruledLet 3 none ∈ tb := memW 978 (by rfl) (by decide)
theorem cw_X8_215 : Vw RX8 215 RX8 yX8_ruledLet cX8_ruledLet 3 none 0 := ⟨memW 975 (by decide +kernel) (by decide), memW 977 (by decide +kernel) (by decide), memW 36 (by decide +kernel) (by decide), memW 50 (by decide +kernel) (by decide), wc_X8_ruledLet, rfl, by decide, by decide, by decide +kernel⟩
set_option maxRecDepth 100000 in
theorem wc_X8_worst : Cond.code yX8_worst cX8_worst 9 (some .long) ∈ tb := memW 982 (by rfl) (by decide)
theorem cw_L_81 : Vw RL 81 RX8 yX8_worst cX8_worst 9 (some .long) 2 := ⟨memW 979 (by decide +kernel) (by decide), memW 980 (by decide +kernel) (by decide), memW 981 (by decide +kernel) (by decide), memW 50 (by decide +kernel) (by decide), wc_X8_worst, rfl, by decide, by decide, by decide +kernel⟩
set_option maxRecDepth 100000 in
theorem wc_X8_lack : Cond.code yX8_lack cX8_lack 5 (some .int) ∈ tb := memW 986 (by rfl) (by decide)
theorem cw_L_85 : Vw RL 85 RX8 yX8_lack cX8_lack 5 (some .int) 2 := ⟨memW 983 (by decide +kernel) (by decide), memW 984 (by decide +kernel) (by decide), memW 985 (by decide +kernel) (by decide), memW 50 (by decide +kernel) (by decide), wc_X8_lack, rfl, by decide, by decide, by decide +kernel⟩
set_option maxRecDepth 100000 in
theorem wc_X8_flood : Cond.code yX8_flood cX8_flood 7 (some .int) ∈ tb := memW 990 (by rfl) (by decide)
theorem cw_L_89 : Vw RL 89 RX8 yX8_flood cX8_flood 7 (some .int) 4 := ⟨memW 987 (by decide +kernel) (by decide), memW 988 (by decide +kernel) (by decide), memW 989 (by decide +kernel) (by decide), memW 50 (by decide +kernel) (by decide), wc_X8_flood, rfl, by decide, by decide, by decide +kernel⟩
set_option maxRecDepth 100000 in
theorem wc_X8_cases : Cond.code yX8_cases cX8_cases 2 (some .int) ∈ tb := memW 994 (by rfl) (by decide)
theorem cw_L_93 : Vw RL 93 RX8 yX8_cases cX8_cases 2 (some .int) 1 := ⟨memW 991 (by decide +kernel) (by decide), memW 992 (by decide +kernel) (by decide), memW 993 (by decide +kernel) (by decide), memW 50 (by decide +kernel) (by decide), wc_X8_cases, rfl, by decide, by decide, by decide +kernel⟩
set_option maxRecDepth 100000 in
theorem wc_X8_begin : Cond.code yX8_begin cX8_begin 2 (some .int) ∈ tb := memW 998 (by rfl) (by decide)
theorem cw_L_97 : Vw RL 97 RX8 yX8_begin cX8_begin 2 (some .int) 1 := ⟨memW 995 (by decide +kernel) (by decide), memW 996 (by decide +kernel) (by decide), memW 997 (by decide +kernel) (by decide), memW 50 (by decide +kernel) (by decide), wc_X8_begin, rfl, by decide, by decide, by decide +kernel⟩
set_option maxRecDepth 100000 in
theorem wc_X8_week : Cond.code yX8_week cX8_week 6 (some .int) ∈ tb := memW 1002 (by rfl) (by decide)
theorem cw_L_101 : Vw RL 101 RX8 yX8_week cX8_week 6 (some .int) 2 := ⟨memW 999 (by decide +kernel) (by decide), memW 1000 (by decide +kernel) (by decide), memW 1001 (by decide +kernel) (by decide), memW 50 (by decide +kernel) (by decide), wc_X8_week, rfl, by decide, by decide, by decide +kernel⟩
set_option maxRecDepth 100000 in
theorem wc_X8_refused : Cond.code yX8_refused cX8_refused 1 (some .int) ∈ tb := memW 1006 (by rfl) (by decide)
theorem cw_X8_224 : Vw RX8 224 RX8 yX8_refused cX8_refused 1 (some .int) 0 := ⟨memW 1003 (by decide +kernel) (by decide), memW 1005 (by decide +kernel) (by decide), memW 37 (by decide +kernel) (by decide), memW 50 (by decide +kernel) (by decide), wc_X8_refused, rfl, by decide, by decide, by decide +kernel⟩
set_option maxRecDepth 100000 in
theorem wc_X8_child : Cond.code yX8_child cX8_child 5 (some .int) ∈ tb := memW 1010 (by rfl) (by decide)
theorem cw_X8_227 : Vw RX8 227 RX8 yX8_child cX8_child 5 (some .int) 2 := ⟨memW 1007 (by decide +kernel) (by decide), memW 1009 (by decide +kernel) (by decide), memW 38 (by decide +kernel) (by decide), memW 50 (by decide +kernel) (by decide), wc_X8_child, rfl, by decide, by decide, by decide +kernel⟩
set_option maxRecDepth 100000 in
theorem wc_X8_goes : Cond.code yX8_goes cX8_goes 6 (some .int) ∈ tb := memW 1014 (by rfl) (by decide)
theorem cw_X8_231 : Vw RX8 231 RX8 yX8_goes cX8_goes 6 (some .int) 1 := ⟨memW 1011 (by decide +kernel) (by decide), memW 1013 (by decide +kernel) (by decide), memW 39 (by decide +kernel) (by decide), memW 50 (by decide +kernel) (by decide), wc_X8_goes, rfl, by decide, by decide, by decide +kernel⟩
set_option maxRecDepth 100000 in
theorem wc_X8_best : Cond.code yX8_best cX8_best 4 (some .int) ∈ tb := memW 1018 (by rfl) (by decide)
theorem cw_L_105 : Vw RL 105 RX8 yX8_best cX8_best 4 (some .int) 1 := ⟨memW 1015 (by decide +kernel) (by decide), memW 1016 (by decide +kernel) (by decide), memW 1017 (by decide +kernel) (by decide), memW 50 (by decide +kernel) (by decide), wc_X8_best, rfl, by decide, by decide, by decide +kernel⟩
set_option maxRecDepth 100000 in
theorem wc_X8_ruled : Cond.code yX8_ruled cX8_ruled 4 (some .int) ∈ tb := memW 1022 (by rfl) (by decide)
theorem cw_L_109 : Vw RL 109 RX8 yX8_ruled cX8_ruled 4 (some .int) 1 := ⟨memW 1019 (by decide +kernel) (by decide), memW 1020 (by decide +kernel) (by decide), memW 1021 (by decide +kernel) (by decide), memW 50 (by decide +kernel) (by decide), wc_X8_ruled, rfl, by decide, by decide, by decide +kernel⟩
set_option maxRecDepth 100000 in
theorem wc_X8_undo : Cond.code yX8_undo cX8_undo 1 (some .int) ∈ tb := memW 1026 (by rfl) (by decide)
theorem cw_L_114 : Vw RL 114 RX8 yX8_undo cX8_undo 1 (some .int) 0 := ⟨memW 1023 (by decide +kernel) (by decide), memW 1024 (by decide +kernel) (by decide), memW 1025 (by decide +kernel) (by decide), memW 50 (by decide +kernel) (by decide), wc_X8_undo, rfl, by decide, by decide, by decide +kernel⟩
set_option maxRecDepth 100000 in
theorem wc_X8_stop : Cond.code yX8_stop cX8_stop 2 (some .int) ∈ tb := memW 1030 (by rfl) (by decide)
theorem cw_L_118 : Vw RL 118 RX8 yX8_stop cX8_stop 2 (some .int) 0 := ⟨memW 1027 (by decide +kernel) (by decide), memW 1028 (by decide +kernel) (by decide), memW 1029 (by decide +kernel) (by decide), memW 50 (by decide +kernel) (by decide), wc_X8_stop, rfl, by decide, by decide, by decide +kernel⟩
set_option maxRecDepth 100000 in
theorem wc_X8_now : Cond.code yX8_now cX8_now 2 (some .int) ∈ tb := memW 1034 (by rfl) (by decide)
theorem cw_L_122 : Vw RL 122 RX8 yX8_now cX8_now 2 (some .int) 1 := ⟨memW 1031 (by decide +kernel) (by decide), memW 1032 (by decide +kernel) (by decide), memW 1033 (by decide +kernel) (by decide), memW 50 (by decide +kernel) (by decide), wc_X8_now, rfl, by decide, by decide, by decide +kernel⟩
theorem kc_L_63 : Cond.constantLong RL 63 (4294967295) ∈ tb := memW 1035 (by decide +kernel) (by decide)
theorem ac_int : Cond.arrayClass .int ∈ tb := memW 117 (by decide +kernel) (by decide)
theorem ac_long : Cond.arrayClass .long ∈ tb := memW 509 (by decide +kernel) (by decide)
theorem ac_boolean : Cond.arrayClass .boolean ∈ tb := memW 818 (by decide +kernel) (by decide)
end
section
section
variable {p : Program} {l : Launch} {e : Env} {R : Room} {s : State} {m : MethodId} {args : Array Value} {below : List Frame} {meth : Method} {c : Code} {D : va_G} {dA : Nat → ClassId} {b0 n0 m0 nE mE : Nat} {Q : State → Prop}
def F_X0_headAt (x0 : Int) (x1 : Int) (σ : Hp) : Option (Int × Hp) :=
  bLt x1 0 (some (0, σ)) ((rd 1 σ x0 0).bind fun v1 => (al 11 σ v1).bind fun v2 => bLt x1 v2 ((rd 1 σ x0 0).bind fun v3 => (ar 11 σ v3 x1).bind fun v4 => some (v4, σ)) (some (0, σ)))
theorem M_X0_headAt (x0 : Int) (x1 : Int) (σ : Hp) : Mn σ (F_X0_headAt x0 x1 σ) := by
  unfold F_X0_headAt
  repeat' first | exact Mn_ret | exact Mn_rz | refine Mn_bo (fun _ => ?_) | refine Mn_nm (fun _ => ?_) | refine Mn_bd ?_ (fun _ _ => ?_) | refine Mn_iv ?_ | refine Mn_bLt ?_ ?_ | refine Mn_bLe ?_ ?_ | refine Mn_bEq ?_ ?_ | refine Mn_bN ?_ ?_ | refine Mn_g3 ?_ | refine Mn_g33 ?_ | refine Mn_g66 ?_ | refine Mn_gD ?_ | refine Mn_pw (fun _ => ?_) | refine Mn_pz (fun _ => ?_) | refine Mn_aw (fun _ => ?_) | refine Mn_az (fun _ => ?_) | refine Mn_aq (fun _ => ?_) | refine Mn_nab (fun _ _ => ?_) | refine Mn_nwb (fun _ _ => ?_)
set_option maxRecDepth 100000 in
set_option maxHeartbeats 4000000 in
theorem T_X0_headAt (l : Launch) (D : va_G) (dA : Nat → ClassId) (b0 : Nat) (x0 : Int) (x1 : Int) (σ σE : Hp) (r : Int) (hF : F_X0_headAt x0 x1 σ = some (r, σE)) : Ct l D dA b0 yX0_headAt cX0_headAt 2 (some .int) 0 0 [(2, x0), (0, x1)] σ (some (pV 0 r)) σE := by
  refine Ct.of (lv0 := [(0, 2, x0), (1, 0, x1)]) (by decide) RX0 rfl (Nat.le_of_ble_eq_true rfl) rfl ?_ (M_X0_headAt x0 x1 σ r σE hF)
  intro p e R s m args below meth c hX hR hnm
  obtain ⟨Q, hQ⟩ : ∃ Q, Q = Qm D dA b0 σ.1 σ.2.1 below args s (some (pV 0 r)) σE := ⟨_, rfl⟩
  rw [← hQ]
  have hE : σE.1 = σE.1 ∧ σE.2.1 = σE.2.1 := ⟨rfl, rfl⟩
  unfold F_X0_headAt at hF
  refine g_iload_n hX 1 dX0_headAt_0 rfl rfl ?_
  refine g_if_lt (tgt := 22) hX dX0_headAt_1 (by decide) hF (fun hc hF => ?_) (fun hc hF => ?_)
  · refine g_iconst hX dX0_headAt_22 ?_
    exact g_iret hX hR hQ hE dX0_headAt_23 hF
  · refine g_iload_n hX 1 dX0_headAt_4 rfl rfl ?_
    refine g_aload_n hX 0 dX0_headAt_5 rfl rfl ?_
    refine g_get hX fl_X0_9 (by decide) (by decide) dX0_headAt_6 hF (fun v1 hF => ?_)
    refine g_alen hX (by decide) dX0_headAt_9 hF (fun v2 hF => ?_)
    refine g_icmp_ge (tgt := 22) hX dX0_headAt_10 (by decide) hF (fun hc hF => ?_) (fun hc hF => ?_)
    · refine g_aload_n hX 0 dX0_headAt_13 rfl rfl ?_
      refine g_get hX fl_X0_9 (by decide) (by decide) dX0_headAt_14 hF (fun v3 hF => ?_)
      refine g_iload_n hX 1 dX0_headAt_17 rfl rfl ?_
      refine g_iald hX dX0_headAt_18 hF (fun v4 hF => ?_)
      refine g_goto (tgt := 23) hX dX0_headAt_19 (by decide) ?_
      exact g_iret hX hR hQ hE dX0_headAt_23 hF
    · refine g_iconst hX dX0_headAt_22 ?_
      exact g_iret hX hR hQ hE dX0_headAt_23 hF
end

section
variable {p : Program} {l : Launch} {e : Env} {R : Room} {s : State} {m : MethodId} {args : Array Value} {below : List Frame} {meth : Method} {c : Code} {D : va_G} {dA : Nat → ClassId} {b0 n0 m0 nE mE : Nat} {Q : State → Prop}
def F_X0_takesHead_B17 (x0 : Int) (x1 : Int) (x2 : Int) (σ : Hp) : Option (Int × Hp) :=
  (rd 1 σ x0 2).bind fun v1 => bLt x1 v1 (bd (iv 1 σ x0 (F_X0_headAt  x0 (x1 + 1) σ)) fun v2 σ3 => bLt v2 x2 (rz 0 σ3) (rz 1 σ3)) (rz 1 σ)
theorem M_X0_takesHead_B17 (x0 : Int) (x1 : Int) (x2 : Int) (σ : Hp) : Mn σ (F_X0_takesHead_B17 x0 x1 x2 σ) := by
  unfold F_X0_takesHead_B17
  repeat' first | exact Mn_ret | exact Mn_rz | exact M_X0_headAt _ _ _ | refine Mn_bo (fun _ => ?_) | refine Mn_nm (fun _ => ?_) | refine Mn_bd ?_ (fun _ _ => ?_) | refine Mn_iv ?_ | refine Mn_bLt ?_ ?_ | refine Mn_bLe ?_ ?_ | refine Mn_bEq ?_ ?_ | refine Mn_bN ?_ ?_ | refine Mn_g3 ?_ | refine Mn_g33 ?_ | refine Mn_g66 ?_ | refine Mn_gD ?_ | refine Mn_pw (fun _ => ?_) | refine Mn_pz (fun _ => ?_) | refine Mn_aw (fun _ => ?_) | refine Mn_az (fun _ => ?_) | refine Mn_aq (fun _ => ?_) | refine Mn_nab (fun _ _ => ?_) | refine Mn_nwb (fun _ _ => ?_)
set_option maxRecDepth 100000 in
set_option maxHeartbeats 4000000 in
theorem T_X0_takesHead_B17 {r : Int} {σE : Hp} (hX : Cx p R s m args meth c D dA b0 n0 m0 3 nE mE cX0_takesHead RX0 1 21) (hR : Rx meth (some .boolean)) (hnm : meth.name = yX0_takesHead.name) (hQ : Q = Qm D dA b0 n0 m0 below args s (some (pV 0 r)) σE) (hE : nE = σE.1 ∧ mE = σE.2.1) (x0 : Int) (x1 : Int) (x2 : Int) (σ : Hp) (hF : F_X0_takesHead_B17 x0 x1 x2 σ = some (r, σE)) : G p l e R s m args below meth c D dA b0 n0 m0 3 nE mE Q 17 [(0, 2, x0), (1, 0, x1), (2, 0, x2)] [] σ := by
  unfold F_X0_takesHead_B17 at hF
  refine g_iload_n hX 1 dX0_takesHead_17 rfl rfl ?_
  refine g_aload_n hX 0 dX0_takesHead_18 rfl rfl ?_
  refine g_get hX fl_X0_32 (by decide) (by decide) dX0_takesHead_19 hF (fun v1 hF => ?_)
  refine g_icmp_ge (tgt := 36) hX dX0_takesHead_22 (by decide) hF (fun hc hF => ?_) (fun hc hF => ?_)
  · refine g_aload_n hX 0 dX0_takesHead_25 rfl rfl ?_
    refine g_iload_n hX 1 dX0_takesHead_26 rfl rfl ?_
    refine g_iconst hX dX0_takesHead_27 ?_
    refine g_iadd hX dX0_takesHead_28 ?_
    refine g_callV (t := 0) (ci := 0) (rest := []) [(0, (x1 + 1))] hX cw_X0_28 rfl (by decide) (by decide) (fun r σ1 h => T_X0_headAt l D dA b0  x0 (x1 + 1) σ σ1 r h) ⟨by decide, by decide⟩ rfl rfl (Nat.le_of_ble_eq_true rfl) dX0_takesHead_29 hF (fun v2 σ3 hF => ?_)
    refine g_iload_n hX 2 dX0_takesHead_32 rfl rfl ?_
    refine g_icmp_lt (tgt := 40) hX dX0_takesHead_33 (by decide) hF (fun hc hF => ?_) (fun hc hF => ?_)
    · refine g_iconst hX dX0_takesHead_40 ?_
      exact g_zret hX hR hQ hE dX0_takesHead_41 hF
    · refine g_iconst hX dX0_takesHead_36 ?_
      refine g_goto (tgt := 41) hX dX0_takesHead_37 (by decide) ?_
      exact g_zret hX hR hQ hE dX0_takesHead_41 hF
  · refine g_iconst hX dX0_takesHead_36 ?_
    refine g_goto (tgt := 41) hX dX0_takesHead_37 (by decide) ?_
    exact g_zret hX hR hQ hE dX0_takesHead_41 hF
def F_X0_takesHead (x0 : Int) (x1 : Int) (x2 : Int) (σ : Hp) : Option (Int × Hp) :=
  bLe x1 0 (F_X0_takesHead_B17 x0 x1 x2  σ) (bd (iv 1 σ x0 (F_X0_headAt  x0 (x1 - 1) σ)) fun v4 σ5 => bLe v4 x2 (F_X0_takesHead_B17 x0 x1 x2  σ5) (rz 0 σ5))
theorem M_X0_takesHead (x0 : Int) (x1 : Int) (x2 : Int) (σ : Hp) : Mn σ (F_X0_takesHead x0 x1 x2 σ) := by
  unfold F_X0_takesHead
  repeat' first | exact Mn_ret | exact Mn_rz | exact M_X0_takesHead_B17 _ _ _  _ | exact M_X0_headAt _ _ _ | refine Mn_bo (fun _ => ?_) | refine Mn_nm (fun _ => ?_) | refine Mn_bd ?_ (fun _ _ => ?_) | refine Mn_iv ?_ | refine Mn_bLt ?_ ?_ | refine Mn_bLe ?_ ?_ | refine Mn_bEq ?_ ?_ | refine Mn_bN ?_ ?_ | refine Mn_g3 ?_ | refine Mn_g33 ?_ | refine Mn_g66 ?_ | refine Mn_gD ?_ | refine Mn_pw (fun _ => ?_) | refine Mn_pz (fun _ => ?_) | refine Mn_aw (fun _ => ?_) | refine Mn_az (fun _ => ?_) | refine Mn_aq (fun _ => ?_) | refine Mn_nab (fun _ _ => ?_) | refine Mn_nwb (fun _ _ => ?_)
set_option maxRecDepth 100000 in
set_option maxHeartbeats 4000000 in
theorem T_X0_takesHead (l : Launch) (D : va_G) (dA : Nat → ClassId) (b0 : Nat) (x0 : Int) (x1 : Int) (x2 : Int) (σ σE : Hp) (r : Int) (hF : F_X0_takesHead x0 x1 x2 σ = some (r, σE)) : Ct l D dA b0 yX0_takesHead cX0_takesHead 3 (some .boolean) 1 21 [(2, x0), (0, x1), (0, x2)] σ (some (pV 0 r)) σE := by
  refine Ct.of (lv0 := [(0, 2, x0), (1, 0, x1), (2, 0, x2)]) (by decide) RX0 rfl (Nat.le_of_ble_eq_true rfl) rfl ?_ (M_X0_takesHead x0 x1 x2 σ r σE hF)
  intro p e R s m args below meth c hX hR hnm
  obtain ⟨Q, hQ⟩ : ∃ Q, Q = Qm D dA b0 σ.1 σ.2.1 below args s (some (pV 0 r)) σE := ⟨_, rfl⟩
  rw [← hQ]
  have hE : σE.1 = σE.1 ∧ σE.2.1 = σE.2.1 := ⟨rfl, rfl⟩
  unfold F_X0_takesHead at hF
  refine g_iload_n hX 1 dX0_takesHead_0 rfl rfl ?_
  refine g_if_le (tgt := 17) hX dX0_takesHead_1 (by decide) hF (fun hc hF => ?_) (fun hc hF => ?_)
  · exact T_X0_takesHead_B17 hX hR hnm hQ hE x0 x1 x2  σ hF
  · refine g_aload_n hX 0 dX0_takesHead_4 rfl rfl ?_
    refine g_iload_n hX 1 dX0_takesHead_5 rfl rfl ?_
    refine g_iconst hX dX0_takesHead_6 ?_
    refine g_isub hX dX0_takesHead_7 ?_
    refine g_callV (t := 0) (ci := 0) (rest := []) [(0, (x1 - 1))] hX cw_X0_28 rfl (by decide) (by decide) (fun r σ1 h => T_X0_headAt l D dA b0  x0 (x1 - 1) σ σ1 r h) ⟨by decide, by decide⟩ rfl rfl (Nat.le_of_ble_eq_true rfl) dX0_takesHead_8 hF (fun v4 σ5 hF => ?_)
    refine g_iload_n hX 2 dX0_takesHead_11 rfl rfl ?_
    refine g_icmp_le (tgt := 17) hX dX0_takesHead_12 (by decide) hF (fun hc hF => ?_) (fun hc hF => ?_)
    · exact T_X0_takesHead_B17 hX hR hnm hQ hE x0 x1 x2  σ5 hF
    · refine g_iconst hX dX0_takesHead_15 ?_
      exact g_zret hX hR hQ hE dX0_takesHead_16 hF
end

section
variable {p : Program} {l : Launch} {e : Env} {R : Room} {s : State} {m : MethodId} {args : Array Value} {below : List Frame} {meth : Method} {c : Code} {D : va_G} {dA : Nat → ClassId} {b0 n0 m0 nE mE : Nat} {Q : State → Prop}
def F_X0_leastLet (x0 : Int) (x1 : Int) (σ : Hp) : Option (Int × Hp) :=
  (rd 1 σ x0 4).bind fun v1 => g33 v1 x1 (some ((min v1 x1), σ))
theorem M_X0_leastLet (x0 : Int) (x1 : Int) (σ : Hp) : Mn σ (F_X0_leastLet x0 x1 σ) := by
  unfold F_X0_leastLet
  repeat' first | exact Mn_ret | exact Mn_rz | refine Mn_bo (fun _ => ?_) | refine Mn_nm (fun _ => ?_) | refine Mn_bd ?_ (fun _ _ => ?_) | refine Mn_iv ?_ | refine Mn_bLt ?_ ?_ | refine Mn_bLe ?_ ?_ | refine Mn_bEq ?_ ?_ | refine Mn_bN ?_ ?_ | refine Mn_g3 ?_ | refine Mn_g33 ?_ | refine Mn_g66 ?_ | refine Mn_gD ?_ | refine Mn_pw (fun _ => ?_) | refine Mn_pz (fun _ => ?_) | refine Mn_aw (fun _ => ?_) | refine Mn_az (fun _ => ?_) | refine Mn_aq (fun _ => ?_) | refine Mn_nab (fun _ _ => ?_) | refine Mn_nwb (fun _ _ => ?_)
set_option maxRecDepth 100000 in
set_option maxHeartbeats 4000000 in
theorem T_X0_leastLet (l : Launch) (D : va_G) (dA : Nat → ClassId) (b0 : Nat) (x0 : Int) (x1 : Int) (σ σE : Hp) (r : Int) (hF : F_X0_leastLet x0 x1 σ = some (r, σE)) : Ct l D dA b0 yX0_leastLet cX0_leastLet 2 (some .int) 1 21 [(2, x0), (0, x1)] σ (some (pV 0 r)) σE := by
  refine Ct.of (lv0 := [(0, 2, x0), (1, 0, x1)]) (by decide) RX0 rfl (Nat.le_of_ble_eq_true rfl) rfl ?_ (M_X0_leastLet x0 x1 σ r σE hF)
  intro p e R s m args below meth c hX hR hnm
  obtain ⟨Q, hQ⟩ : ∃ Q, Q = Qm D dA b0 σ.1 σ.2.1 below args s (some (pV 0 r)) σE := ⟨_, rfl⟩
  rw [← hQ]
  have hE : σE.1 = σE.1 ∧ σE.2.1 = σE.2.1 := ⟨rfl, rfl⟩
  unfold F_X0_leastLet at hF
  refine g_aload_n hX 0 dX0_leastLet_0 rfl rfl ?_
  refine g_get hX fl_X0_35 (by decide) (by decide) dX0_leastLet_1 hF (fun v1 hF => ?_)
  refine g_iload_n hX 1 dX0_leastLet_4 rfl rfl ?_
  refine g_min hX mw_X0_38 (by decide) (Nat.le_of_ble_eq_true rfl) dX0_leastLet_5 hF (fun hF => ?_)
  exact g_iret hX hR hQ hE dX0_leastLet_8 hF
end

section
variable {p : Program} {l : Launch} {e : Env} {R : Room} {s : State} {m : MethodId} {args : Array Value} {below : List Frame} {meth : Method} {c : Code} {D : va_G} {dA : Nat → ClassId} {b0 n0 m0 nE mE : Nat} {Q : State → Prop}
def F_X0_mostLet (x0 : Int) (x1 : Int) (σ : Hp) : Option (Int × Hp) :=
  bd (iv 1 σ x0 (F_X0_leastLet  x0 x1 σ)) fun v1 σ2 => (rd 1 σ2 x0 3).bind fun v3 => (rd 1 σ2 x0 1).bind fun v4 => g33 v3 (x1 - v4) (g33 v1 (min v3 (x1 - v4)) (some ((max v1 (min v3 (x1 - v4))), σ2)))
theorem M_X0_mostLet (x0 : Int) (x1 : Int) (σ : Hp) : Mn σ (F_X0_mostLet x0 x1 σ) := by
  unfold F_X0_mostLet
  repeat' first | exact Mn_ret | exact Mn_rz | exact M_X0_leastLet _ _ _ | refine Mn_bo (fun _ => ?_) | refine Mn_nm (fun _ => ?_) | refine Mn_bd ?_ (fun _ _ => ?_) | refine Mn_iv ?_ | refine Mn_bLt ?_ ?_ | refine Mn_bLe ?_ ?_ | refine Mn_bEq ?_ ?_ | refine Mn_bN ?_ ?_ | refine Mn_g3 ?_ | refine Mn_g33 ?_ | refine Mn_g66 ?_ | refine Mn_gD ?_ | refine Mn_pw (fun _ => ?_) | refine Mn_pz (fun _ => ?_) | refine Mn_aw (fun _ => ?_) | refine Mn_az (fun _ => ?_) | refine Mn_aq (fun _ => ?_) | refine Mn_nab (fun _ _ => ?_) | refine Mn_nwb (fun _ _ => ?_)
set_option maxRecDepth 100000 in
set_option maxHeartbeats 4000000 in
theorem T_X0_mostLet (l : Launch) (D : va_G) (dA : Nat → ClassId) (b0 : Nat) (x0 : Int) (x1 : Int) (σ σE : Hp) (r : Int) (hF : F_X0_mostLet x0 x1 σ = some (r, σE)) : Ct l D dA b0 yX0_mostLet cX0_mostLet 2 (some .int) 2 42 [(2, x0), (0, x1)] σ (some (pV 0 r)) σE := by
  refine Ct.of (lv0 := [(0, 2, x0), (1, 0, x1)]) (by decide) RX0 rfl (Nat.le_of_ble_eq_true rfl) rfl ?_ (M_X0_mostLet x0 x1 σ r σE hF)
  intro p e R s m args below meth c hX hR hnm
  obtain ⟨Q, hQ⟩ : ∃ Q, Q = Qm D dA b0 σ.1 σ.2.1 below args s (some (pV 0 r)) σE := ⟨_, rfl⟩
  rw [← hQ]
  have hE : σE.1 = σE.1 ∧ σE.2.1 = σE.2.1 := ⟨rfl, rfl⟩
  unfold F_X0_mostLet at hF
  refine g_aload_n hX 0 dX0_mostLet_0 rfl rfl ?_
  refine g_iload_n hX 1 dX0_mostLet_1 rfl rfl ?_
  refine g_callV (t := 0) (ci := 0) (rest := []) [(0, x1)] hX cw_X0_44 rfl (by decide) (by decide) (fun r σ1 h => T_X0_leastLet l D dA b0  x0 x1 σ σ1 r h) ⟨by decide, by decide⟩ rfl rfl (Nat.le_of_ble_eq_true rfl) dX0_mostLet_2 hF (fun v1 σ2 hF => ?_)
  refine g_aload_n hX 0 dX0_mostLet_5 rfl rfl ?_
  refine g_get hX fl_X0_47 (by decide) (by decide) dX0_mostLet_6 hF (fun v3 hF => ?_)
  refine g_iload_n hX 1 dX0_mostLet_9 rfl rfl ?_
  refine g_aload_n hX 0 dX0_mostLet_10 rfl rfl ?_
  refine g_get hX fl_X0_50 (by decide) (by decide) dX0_mostLet_11 hF (fun v4 hF => ?_)
  refine g_isub hX dX0_mostLet_14 ?_
  refine g_min hX mw_X0_38 (by decide) (Nat.le_of_ble_eq_true rfl) dX0_mostLet_15 hF (fun hF => ?_)
  refine g_max hX mw_X0_53 (by decide) (Nat.le_of_ble_eq_true rfl) dX0_mostLet_18 hF (fun hF => ?_)
  exact g_iret hX hR hQ hE dX0_mostLet_21 hF
end

section
variable {p : Program} {l : Launch} {e : Env} {R : Room} {s : State} {m : MethodId} {args : Array Value} {below : List Frame} {meth : Method} {c : Code} {D : va_G} {dA : Nat → ClassId} {b0 n0 m0 nE mE : Nat} {Q : State → Prop}
def F_X0_ruleLet (x0 : Int) (x1 : Int) (σ : Hp) : Option (Int × Hp) :=
  (rd 1 σ x0 6).bind fun v1 => g33 (x1 - v1) 0 ((rd 1 σ x0 7).bind fun v2 => g33 (max (x1 - v1) 0) v2 (nm ((min (max (x1 - v1) 0) v2)) fun v3 => bd (iv 1 σ x0 (F_X0_leastLet  x0 x1 σ)) fun v4 σ5 => bd (iv 1 σ5 x0 (F_X0_mostLet  x0 x1 σ5)) fun v6 σ7 => g33 v6 v3 (g33 v4 (min v6 v3) (some ((max v4 (min v6 v3)), σ7)))))
theorem M_X0_ruleLet (x0 : Int) (x1 : Int) (σ : Hp) : Mn σ (F_X0_ruleLet x0 x1 σ) := by
  unfold F_X0_ruleLet
  repeat' first | exact Mn_ret | exact Mn_rz | exact M_X0_leastLet _ _ _ | exact M_X0_mostLet _ _ _ | refine Mn_bo (fun _ => ?_) | refine Mn_nm (fun _ => ?_) | refine Mn_bd ?_ (fun _ _ => ?_) | refine Mn_iv ?_ | refine Mn_bLt ?_ ?_ | refine Mn_bLe ?_ ?_ | refine Mn_bEq ?_ ?_ | refine Mn_bN ?_ ?_ | refine Mn_g3 ?_ | refine Mn_g33 ?_ | refine Mn_g66 ?_ | refine Mn_gD ?_ | refine Mn_pw (fun _ => ?_) | refine Mn_pz (fun _ => ?_) | refine Mn_aw (fun _ => ?_) | refine Mn_az (fun _ => ?_) | refine Mn_aq (fun _ => ?_) | refine Mn_nab (fun _ _ => ?_) | refine Mn_nwb (fun _ _ => ?_)
set_option maxRecDepth 100000 in
set_option maxHeartbeats 4000000 in
theorem T_X0_ruleLet (l : Launch) (D : va_G) (dA : Nat → ClassId) (b0 : Nat) (x0 : Int) (x1 : Int) (σ σE : Hp) (r : Int) (hF : F_X0_ruleLet x0 x1 σ = some (r, σE)) : Ct l D dA b0 yX0_ruleLet cX0_ruleLet 3 (some .int) 3 63 [(2, x0), (0, x1)] σ (some (pV 0 r)) σE := by
  refine Ct.of (lv0 := [(0, 2, x0), (1, 0, x1)]) (by decide) RX0 rfl (Nat.le_of_ble_eq_true rfl) rfl ?_ (M_X0_ruleLet x0 x1 σ r σE hF)
  intro p e R s m args below meth c hX hR hnm
  obtain ⟨Q, hQ⟩ : ∃ Q, Q = Qm D dA b0 σ.1 σ.2.1 below args s (some (pV 0 r)) σE := ⟨_, rfl⟩
  rw [← hQ]
  have hE : σE.1 = σE.1 ∧ σE.2.1 = σE.2.1 := ⟨rfl, rfl⟩
  unfold F_X0_ruleLet at hF
  refine g_iload_n hX 1 dX0_ruleLet_0 rfl rfl ?_
  refine g_aload_n hX 0 dX0_ruleLet_1 rfl rfl ?_
  refine g_get hX fl_X0_56 (by decide) (by decide) dX0_ruleLet_2 hF (fun v1 hF => ?_)
  refine g_isub hX dX0_ruleLet_5 ?_
  refine g_iconst hX dX0_ruleLet_6 ?_
  refine g_max hX mw_X0_53 (by decide) (Nat.le_of_ble_eq_true rfl) dX0_ruleLet_7 hF (fun hF => ?_)
  refine g_aload_n hX 0 dX0_ruleLet_10 rfl rfl ?_
  refine g_get hX fl_X0_15 (by decide) (by decide) dX0_ruleLet_11 hF (fun v2 hF => ?_)
  refine g_min hX mw_X0_38 (by decide) (Nat.le_of_ble_eq_true rfl) dX0_ruleLet_14 hF (fun hF => ?_)
  refine g_nm hF (fun v3 hF => ?_)
  refine g_istore_n (lv' := [(2, 0, v3), (0, 2, x0), (1, 0, x1)]) hX dX0_ruleLet_17 rfl (by decide) rfl ?_
  refine g_aload_n hX 1 dX0_ruleLet_18 rfl rfl ?_
  refine g_iload_n hX 2 dX0_ruleLet_19 rfl rfl ?_
  refine g_callV (t := 0) (ci := 0) (rest := []) [(0, x1)] hX cw_X0_44 rfl (by decide) (by decide) (fun r σ1 h => T_X0_leastLet l D dA b0  x0 x1 σ σ1 r h) ⟨by decide, by decide⟩ rfl rfl (Nat.le_of_ble_eq_true rfl) dX0_ruleLet_20 hF (fun v4 σ5 hF => ?_)
  refine g_aload_n hX 1 dX0_ruleLet_23 rfl rfl ?_
  refine g_iload_n hX 2 dX0_ruleLet_24 rfl rfl ?_
  refine g_callV (t := 0) (ci := 0) (rest := [(0, v4)]) [(0, x1)] hX cw_X0_59 rfl (by decide) (by decide) (fun r σ1 h => T_X0_mostLet l D dA b0  x0 x1 σ5 σ1 r h) ⟨by decide, by decide⟩ rfl rfl (Nat.le_of_ble_eq_true rfl) dX0_ruleLet_25 hF (fun v6 σ7 hF => ?_)
  refine g_iload_n hX 0 dX0_ruleLet_28 rfl rfl ?_
  refine g_min hX mw_X0_38 (by decide) (Nat.le_of_ble_eq_true rfl) dX0_ruleLet_29 hF (fun hF => ?_)
  refine g_max hX mw_X0_53 (by decide) (Nat.le_of_ble_eq_true rfl) dX0_ruleLet_32 hF (fun hF => ?_)
  exact g_iret hX hR hQ hE dX0_ruleLet_35 hF
end
end
