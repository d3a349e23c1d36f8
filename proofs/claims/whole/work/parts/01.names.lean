/-- a private method of a class that the tables say can be made, by its rows of tables_1 -/
def lw_okq (q : MethodName × Nat) : Prop := (q.1.cls ≠ "java/lang/invoke/MethodHandle" ∧ q.1.cls ≠ "java/lang/invoke/VarHandle") ∧ Cond.instantiable q.1.cls q.2 ∈ tables_1 ∧ Cond.privateMethod q.1 ∈ tables_1 ∧ Cond.instanceMethod q.1 ∈ tables_1
theorem lw_p0 : lw_okq (⟨"SchemaRecords$SchemaReader", "readField", "(II)Z"⟩, 2) := ⟨⟨by decide +kernel, by decide +kernel⟩, List.mem_of_getElem? (i := 215) (by decide +kernel), List.mem_of_getElem? (i := 240) (by decide +kernel), List.mem_of_getElem? (i := 241) (by decide +kernel)⟩
theorem lw_p1 : lw_okq (⟨"SchemaRecords$SchemaReader", "readKind", "()I"⟩, 2) := ⟨⟨by decide +kernel, by decide +kernel⟩, List.mem_of_getElem? (i := 215) (by decide +kernel), List.mem_of_getElem? (i := 244) (by decide +kernel), List.mem_of_getElem? (i := 245) (by decide +kernel)⟩
theorem lw_p2 : lw_okq (⟨"SchemaRecords$SchemaReader", "readType", "()I"⟩, 2) := ⟨⟨by decide +kernel, by decide +kernel⟩, List.mem_of_getElem? (i := 215) (by decide +kernel), List.mem_of_getElem? (i := 333) (by decide +kernel), List.mem_of_getElem? (i := 334) (by decide +kernel)⟩
theorem lw_p3 : lw_okq (⟨"SchemaRecords$SchemaReader", "nameStands", "(III)Z"⟩, 2) := ⟨⟨by decide +kernel, by decide +kernel⟩, List.mem_of_getElem? (i := 215) (by decide +kernel), List.mem_of_getElem? (i := 342) (by decide +kernel), List.mem_of_getElem? (i := 343) (by decide +kernel)⟩
theorem lw_p4 : lw_okq (⟨"SchemaRecords$Schema", "setLevels", "(LSchemaRecords$Field;)V"⟩, 5) := ⟨⟨by decide +kernel, by decide +kernel⟩, List.mem_of_getElem? (i := 57) (by decide +kernel), List.mem_of_getElem? (i := 446) (by decide +kernel), List.mem_of_getElem? (i := 447) (by decide +kernel)⟩
theorem lw_p5 : lw_okq (⟨"SchemaRecords$SchemaReader", "readGroup", "(II)Z"⟩, 2) := ⟨⟨by decide +kernel, by decide +kernel⟩, List.mem_of_getElem? (i := 215) (by decide +kernel), List.mem_of_getElem? (i := 450) (by decide +kernel), List.mem_of_getElem? (i := 451) (by decide +kernel)⟩
theorem lw_p6 : lw_okq (⟨"SchemaRecords$RecordReader", "readName", "(II)LSchemaRecords$Field;"⟩, 5) := ⟨⟨by decide +kernel, by decide +kernel⟩, List.mem_of_getElem? (i := 497) (by decide +kernel), List.mem_of_getElem? (i := 526) (by decide +kernel), List.mem_of_getElem? (i := 527) (by decide +kernel)⟩
theorem lw_p7 : lw_okq (⟨"SchemaRecords$RecordReader", "readField", "(LSchemaRecords$Field;II)Z"⟩, 5) := ⟨⟨by decide +kernel, by decide +kernel⟩, List.mem_of_getElem? (i := 497) (by decide +kernel), List.mem_of_getElem? (i := 537) (by decide +kernel), List.mem_of_getElem? (i := 538) (by decide +kernel)⟩
theorem lw_p8 : lw_okq (⟨"SchemaRecords$RecordReader", "readValue", "(LSchemaRecords$Field;II)Z"⟩, 5) := ⟨⟨by decide +kernel, by decide +kernel⟩, List.mem_of_getElem? (i := 497) (by decide +kernel), List.mem_of_getElem? (i := 541) (by decide +kernel), List.mem_of_getElem? (i := 542) (by decide +kernel)⟩
theorem lw_p9 : lw_okq (⟨"SchemaRecords$RecordReader", "readBool", "()Z"⟩, 5) := ⟨⟨by decide +kernel, by decide +kernel⟩, List.mem_of_getElem? (i := 497) (by decide +kernel), List.mem_of_getElem? (i := 545) (by decide +kernel), List.mem_of_getElem? (i := 546) (by decide +kernel)⟩
theorem lw_p10 : lw_okq (⟨"SchemaRecords$RecordReader", "keep", "(LSchemaRecords$Field;I[BI)Z"⟩, 5) := ⟨⟨by decide +kernel, by decide +kernel⟩, List.mem_of_getElem? (i := 497) (by decide +kernel), List.mem_of_getElem? (i := 553) (by decide +kernel), List.mem_of_getElem? (i := 554) (by decide +kernel)⟩
theorem lw_p11 : lw_okq (⟨"SchemaRecords$RecordReader", "readNumber", "(J)Z"⟩, 5) := ⟨⟨by decide +kernel, by decide +kernel⟩, List.mem_of_getElem? (i := 497) (by decide +kernel), List.mem_of_getElem? (i := 567) (by decide +kernel), List.mem_of_getElem? (i := 568) (by decide +kernel)⟩
theorem lw_p12 : lw_okq (⟨"SchemaRecords$RecordReader", "readText", "()I"⟩, 5) := ⟨⟨by decide +kernel, by decide +kernel⟩, List.mem_of_getElem? (i := 497) (by decide +kernel), List.mem_of_getElem? (i := 580) (by decide +kernel), List.mem_of_getElem? (i := 581) (by decide +kernel)⟩
theorem lw_p13 : lw_okq (⟨"SchemaRecords$RecordReader", "readEscape", "()I"⟩, 5) := ⟨⟨by decide +kernel, by decide +kernel⟩, List.mem_of_getElem? (i := 497) (by decide +kernel), List.mem_of_getElem? (i := 584) (by decide +kernel), List.mem_of_getElem? (i := 585) (by decide +kernel)⟩
theorem lw_p14 : lw_okq (⟨"SchemaRecords$RecordReader", "failEscape", "(I)I"⟩, 5) := ⟨⟨by decide +kernel, by decide +kernel⟩, List.mem_of_getElem? (i := 497) (by decide +kernel), List.mem_of_getElem? (i := 588) (by decide +kernel), List.mem_of_getElem? (i := 589) (by decide +kernel)⟩
theorem lw_p15 : lw_okq (⟨"SchemaRecords$RecordReader", "readPlain", "(I)I"⟩, 5) := ⟨⟨by decide +kernel, by decide +kernel⟩, List.mem_of_getElem? (i := 497) (by decide +kernel), List.mem_of_getElem? (i := 595) (by decide +kernel), List.mem_of_getElem? (i := 596) (by decide +kernel)⟩
def lw_privs_1 : List (MethodName × Nat) := [(⟨"SchemaRecords$SchemaReader", "readField", "(II)Z"⟩, 2), (⟨"SchemaRecords$SchemaReader", "readKind", "()I"⟩, 2), (⟨"SchemaRecords$SchemaReader", "readType", "()I"⟩, 2), (⟨"SchemaRecords$SchemaReader", "nameStands", "(III)Z"⟩, 2), (⟨"SchemaRecords$Schema", "setLevels", "(LSchemaRecords$Field;)V"⟩, 5), (⟨"SchemaRecords$SchemaReader", "readGroup", "(II)Z"⟩, 2), (⟨"SchemaRecords$RecordReader", "readName", "(II)LSchemaRecords$Field;"⟩, 5), (⟨"SchemaRecords$RecordReader", "readField", "(LSchemaRecords$Field;II)Z"⟩, 5), (⟨"SchemaRecords$RecordReader", "readValue", "(LSchemaRecords$Field;II)Z"⟩, 5), (⟨"SchemaRecords$RecordReader", "readBool", "()Z"⟩, 5), (⟨"SchemaRecords$RecordReader", "keep", "(LSchemaRecords$Field;I[BI)Z"⟩, 5), (⟨"SchemaRecords$RecordReader", "readNumber", "(J)Z"⟩, 5), (⟨"SchemaRecords$RecordReader", "readText", "()I"⟩, 5), (⟨"SchemaRecords$RecordReader", "readEscape", "()I"⟩, 5), (⟨"SchemaRecords$RecordReader", "failEscape", "(I)I"⟩, 5), (⟨"SchemaRecords$RecordReader", "readPlain", "(I)I"⟩, 5)]
theorem lw_r1 : ∀ q ∈ lw_privs_1, lw_okq q := List.forall_mem_cons.mpr ⟨lw_p0, List.forall_mem_cons.mpr ⟨lw_p1, List.forall_mem_cons.mpr ⟨lw_p2, List.forall_mem_cons.mpr ⟨lw_p3, List.forall_mem_cons.mpr ⟨lw_p4, List.forall_mem_cons.mpr ⟨lw_p5, List.forall_mem_cons.mpr ⟨lw_p6, List.forall_mem_cons.mpr ⟨lw_p7, List.forall_mem_cons.mpr ⟨lw_p8, List.forall_mem_cons.mpr ⟨lw_p9, List.forall_mem_cons.mpr ⟨lw_p10, List.forall_mem_cons.mpr ⟨lw_p11, List.forall_mem_cons.mpr ⟨lw_p12, List.forall_mem_cons.mpr ⟨lw_p13, List.forall_mem_cons.mpr ⟨lw_p14, List.forall_mem_cons.mpr ⟨lw_p15, fun _ h => absurd h List.not_mem_nil⟩⟩⟩⟩⟩⟩⟩⟩⟩⟩⟩⟩⟩⟩⟩⟩
theorem lw_p16 : lw_okq (⟨"SchemaRecords$NodeRow", "isOpen", "(I)Z"⟩, 3) := ⟨⟨by decide +kernel, by decide +kernel⟩, List.mem_of_getElem? (i := 84) (by decide +kernel), List.mem_of_getElem? (i := 627) (by decide +kernel), List.mem_of_getElem? (i := 628) (by decide +kernel)⟩
theorem lw_p17 : lw_okq (⟨"SchemaRecords$RecordWriter", "putBetween", "(LSchemaRecords$Field;LSchemaRecords$Field;)V"⟩, 3) := ⟨⟨by decide +kernel, by decide +kernel⟩, List.mem_of_getElem? (i := 684) (by decide +kernel), List.mem_of_getElem? (i := 712) (by decide +kernel), List.mem_of_getElem? (i := 713) (by decide +kernel)⟩
theorem lw_p18 : lw_okq (⟨"SchemaRecords$RecordWriter", "putClosing", "(LSchemaRecords$Field;)V"⟩, 3) := ⟨⟨by decide +kernel, by decide +kernel⟩, List.mem_of_getElem? (i := 684) (by decide +kernel), List.mem_of_getElem? (i := 716) (by decide +kernel), List.mem_of_getElem? (i := 717) (by decide +kernel)⟩
theorem lw_p19 : lw_okq (⟨"SchemaRecords$RecordWriter", "putBytes", "([B)V"⟩, 3) := ⟨⟨by decide +kernel, by decide +kernel⟩, List.mem_of_getElem? (i := 684) (by decide +kernel), List.mem_of_getElem? (i := 720) (by decide +kernel), List.mem_of_getElem? (i := 721) (by decide +kernel)⟩
theorem lw_p20 : lw_okq (⟨"SchemaRecords$RecordWriter", "putLeaf", "(ILSchemaRecords$Node;LSchemaRecords$Field;)I"⟩, 3) := ⟨⟨by decide +kernel, by decide +kernel⟩, List.mem_of_getElem? (i := 684) (by decide +kernel), List.mem_of_getElem? (i := 725) (by decide +kernel), List.mem_of_getElem? (i := 726) (by decide +kernel)⟩
theorem lw_p21 : lw_okq (⟨"SchemaRecords$RecordWriter", "putText", "([B)V"⟩, 3) := ⟨⟨by decide +kernel, by decide +kernel⟩, List.mem_of_getElem? (i := 684) (by decide +kernel), List.mem_of_getElem? (i := 729) (by decide +kernel), List.mem_of_getElem? (i := 730) (by decide +kernel)⟩
theorem lw_p22 : lw_okq (⟨"SchemaRecords$RecordWriter", "putTextByte", "(I)V"⟩, 3) := ⟨⟨by decide +kernel, by decide +kernel⟩, List.mem_of_getElem? (i := 684) (by decide +kernel), List.mem_of_getElem? (i := 733) (by decide +kernel), List.mem_of_getElem? (i := 734) (by decide +kernel)⟩
theorem lw_p23 : lw_okq (⟨"SchemaRecords$RecordWriter", "putWord", "(Ljava/lang/String;)V"⟩, 3) := ⟨⟨by decide +kernel, by decide +kernel⟩, List.mem_of_getElem? (i := 684) (by decide +kernel), List.mem_of_getElem? (i := 738) (by decide +kernel), List.mem_of_getElem? (i := 739) (by decide +kernel)⟩
theorem lw_p24 : lw_okq (⟨"SchemaRecords$RecordWriter", "putNumber", "(J)V"⟩, 3) := ⟨⟨by decide +kernel, by decide +kernel⟩, List.mem_of_getElem? (i := 684) (by decide +kernel), List.mem_of_getElem? (i := 749) (by decide +kernel), List.mem_of_getElem? (i := 750) (by decide +kernel)⟩
theorem lw_p25 : lw_okq (⟨"SchemaRecordsModel", "takes", "(I)Z"⟩, 31) := ⟨⟨by decide +kernel, by decide +kernel⟩, List.mem_of_getElem? (i := 763) (by decide +kernel), List.mem_of_getElem? (i := 875) (by decide +kernel), List.mem_of_getElem? (i := 876) (by decide +kernel)⟩
theorem lw_p26 : lw_okq (⟨"SchemaRecordsModel", "readField", "(II)V"⟩, 31) := ⟨⟨by decide +kernel, by decide +kernel⟩, List.mem_of_getElem? (i := 763) (by decide +kernel), List.mem_of_getElem? (i := 879) (by decide +kernel), List.mem_of_getElem? (i := 880) (by decide +kernel)⟩
theorem lw_p27 : lw_okq (⟨"SchemaRecordsModel", "blanks", "()V"⟩, 31) := ⟨⟨by decide +kernel, by decide +kernel⟩, List.mem_of_getElem? (i := 763) (by decide +kernel), List.mem_of_getElem? (i := 883) (by decide +kernel), List.mem_of_getElem? (i := 884) (by decide +kernel)⟩
theorem lw_p28 : lw_okq (⟨"SchemaRecordsModel", "look", "()I"⟩, 31) := ⟨⟨by decide +kernel, by decide +kernel⟩, List.mem_of_getElem? (i := 763) (by decide +kernel), List.mem_of_getElem? (i := 887) (by decide +kernel), List.mem_of_getElem? (i := 888) (by decide +kernel)⟩
theorem lw_p29 : lw_okq (⟨"SchemaRecordsModel", "takesWord", "(J)Z"⟩, 31) := ⟨⟨by decide +kernel, by decide +kernel⟩, List.mem_of_getElem? (i := 763) (by decide +kernel), List.mem_of_getElem? (i := 892) (by decide +kernel), List.mem_of_getElem? (i := 893) (by decide +kernel)⟩
theorem lw_p30 : lw_okq (⟨"SchemaRecordsModel", "isWord", "(J)Z"⟩, 31) := ⟨⟨by decide +kernel, by decide +kernel⟩, List.mem_of_getElem? (i := 763) (by decide +kernel), List.mem_of_getElem? (i := 896) (by decide +kernel), List.mem_of_getElem? (i := 897) (by decide +kernel)⟩
theorem lw_p31 : lw_okq (⟨"SchemaRecordsModel", "word", "()I"⟩, 31) := ⟨⟨by decide +kernel, by decide +kernel⟩, List.mem_of_getElem? (i := 763) (by decide +kernel), List.mem_of_getElem? (i := 900) (by decide +kernel), List.mem_of_getElem? (i := 901) (by decide +kernel)⟩
def lw_privs_2 : List (MethodName × Nat) := [(⟨"SchemaRecords$NodeRow", "isOpen", "(I)Z"⟩, 3), (⟨"SchemaRecords$RecordWriter", "putBetween", "(LSchemaRecords$Field;LSchemaRecords$Field;)V"⟩, 3), (⟨"SchemaRecords$RecordWriter", "putClosing", "(LSchemaRecords$Field;)V"⟩, 3), (⟨"SchemaRecords$RecordWriter", "putBytes", "([B)V"⟩, 3), (⟨"SchemaRecords$RecordWriter", "putLeaf", "(ILSchemaRecords$Node;LSchemaRecords$Field;)I"⟩, 3), (⟨"SchemaRecords$RecordWriter", "putText", "([B)V"⟩, 3), (⟨"SchemaRecords$RecordWriter", "putTextByte", "(I)V"⟩, 3), (⟨"SchemaRecords$RecordWriter", "putWord", "(Ljava/lang/String;)V"⟩, 3), (⟨"SchemaRecords$RecordWriter", "putNumber", "(J)V"⟩, 3), (⟨"SchemaRecordsModel", "takes", "(I)Z"⟩, 31), (⟨"SchemaRecordsModel", "readField", "(II)V"⟩, 31), (⟨"SchemaRecordsModel", "blanks", "()V"⟩, 31), (⟨"SchemaRecordsModel", "look", "()I"⟩, 31), (⟨"SchemaRecordsModel", "takesWord", "(J)Z"⟩, 31), (⟨"SchemaRecordsModel", "isWord", "(J)Z"⟩, 31), (⟨"SchemaRecordsModel", "word", "()I"⟩, 31)]
theorem lw_r2 : ∀ q ∈ lw_privs_2, lw_okq q := List.forall_mem_cons.mpr ⟨lw_p16, List.forall_mem_cons.mpr ⟨lw_p17, List.forall_mem_cons.mpr ⟨lw_p18, List.forall_mem_cons.mpr ⟨lw_p19, List.forall_mem_cons.mpr ⟨lw_p20, List.forall_mem_cons.mpr ⟨lw_p21, List.forall_mem_cons.mpr ⟨lw_p22, List.forall_mem_cons.mpr ⟨lw_p23, List.forall_mem_cons.mpr ⟨lw_p24, List.forall_mem_cons.mpr ⟨lw_p25, List.forall_mem_cons.mpr ⟨lw_p26, List.forall_mem_cons.mpr ⟨lw_p27, List.forall_mem_cons.mpr ⟨lw_p28, List.forall_mem_cons.mpr ⟨lw_p29, List.forall_mem_cons.mpr ⟨lw_p30, List.forall_mem_cons.mpr ⟨lw_p31, fun _ h => absurd h List.not_mem_nil⟩⟩⟩⟩⟩⟩⟩⟩⟩⟩⟩⟩⟩⟩⟩⟩
theorem lw_p32 : lw_okq (⟨"SchemaRecordsModel", "fail", "(I)V"⟩, 31) := ⟨⟨by decide +kernel, by decide +kernel⟩, List.mem_of_getElem? (i := 763) (by decide +kernel), List.mem_of_getElem? (i := 912) (by decide +kernel), List.mem_of_getElem? (i := 913) (by decide +kernel)⟩
theorem lw_p33 : lw_okq (⟨"SchemaRecordsModel", "wantSign", "(I)V"⟩, 31) := ⟨⟨by decide +kernel, by decide +kernel⟩, List.mem_of_getElem? (i := 763) (by decide +kernel), List.mem_of_getElem? (i := 921) (by decide +kernel), List.mem_of_getElem? (i := 922) (by decide +kernel)⟩
theorem lw_p34 : lw_okq (⟨"SchemaRecordsModel", "takesSign", "(I)Z"⟩, 31) := ⟨⟨by decide +kernel, by decide +kernel⟩, List.mem_of_getElem? (i := 763) (by decide +kernel), List.mem_of_getElem? (i := 925) (by decide +kernel), List.mem_of_getElem? (i := 926) (by decide +kernel)⟩
theorem lw_p35 : lw_okq (⟨"SchemaRecordsModel", "empty", "()V"⟩, 31) := ⟨⟨by decide +kernel, by decide +kernel⟩, List.mem_of_getElem? (i := 763) (by decide +kernel), List.mem_of_getElem? (i := 929) (by decide +kernel), List.mem_of_getElem? (i := 930) (by decide +kernel)⟩
theorem lw_p36 : lw_okq (⟨"SchemaRecordsModel", "isField", "(I)Z"⟩, 31) := ⟨⟨by decide +kernel, by decide +kernel⟩, List.mem_of_getElem? (i := 763) (by decide +kernel), List.mem_of_getElem? (i := 941) (by decide +kernel), List.mem_of_getElem? (i := 942) (by decide +kernel)⟩
theorem lw_p37 : lw_okq (⟨"SchemaRecordsModel", "level", "(IZ)I"⟩, 31) := ⟨⟨by decide +kernel, by decide +kernel⟩, List.mem_of_getElem? (i := 763) (by decide +kernel), List.mem_of_getElem? (i := 945) (by decide +kernel), List.mem_of_getElem? (i := 946) (by decide +kernel)⟩
theorem lw_p38 : lw_okq (⟨"SchemaRecordsModel", "named", "(III)I"⟩, 31) := ⟨⟨by decide +kernel, by decide +kernel⟩, List.mem_of_getElem? (i := 763) (by decide +kernel), List.mem_of_getElem? (i := 961) (by decide +kernel), List.mem_of_getElem? (i := 962) (by decide +kernel)⟩
theorem lw_p39 : lw_okq (⟨"SchemaRecordsModel", "readGroup", "(II)V"⟩, 31) := ⟨⟨by decide +kernel, by decide +kernel⟩, List.mem_of_getElem? (i := 763) (by decide +kernel), List.mem_of_getElem? (i := 969) (by decide +kernel), List.mem_of_getElem? (i := 970) (by decide +kernel)⟩
theorem lw_p40 : lw_okq (⟨"SchemaRecordsModel", "end", "(II)V"⟩, 31) := ⟨⟨by decide +kernel, by decide +kernel⟩, List.mem_of_getElem? (i := 763) (by decide +kernel), List.mem_of_getElem? (i := 973) (by decide +kernel), List.mem_of_getElem? (i := 974) (by decide +kernel)⟩
theorem lw_p41 : lw_okq (⟨"SchemaRecordsModel", "misses", "(III)Z"⟩, 31) := ⟨⟨by decide +kernel, by decide +kernel⟩, List.mem_of_getElem? (i := 763) (by decide +kernel), List.mem_of_getElem? (i := 977) (by decide +kernel), List.mem_of_getElem? (i := 978) (by decide +kernel)⟩
theorem lw_p42 : lw_okq (⟨"SchemaRecordsModel", "readRow", "(II)V"⟩, 31) := ⟨⟨by decide +kernel, by decide +kernel⟩, List.mem_of_getElem? (i := 763) (by decide +kernel), List.mem_of_getElem? (i := 981) (by decide +kernel), List.mem_of_getElem? (i := 982) (by decide +kernel)⟩
theorem lw_p43 : lw_okq (⟨"SchemaRecordsModel", "readValue", "(II)V"⟩, 31) := ⟨⟨by decide +kernel, by decide +kernel⟩, List.mem_of_getElem? (i := 763) (by decide +kernel), List.mem_of_getElem? (i := 985) (by decide +kernel), List.mem_of_getElem? (i := 986) (by decide +kernel)⟩
theorem lw_p44 : lw_okq (⟨"SchemaRecordsModel", "node", "(IIJ)I"⟩, 31) := ⟨⟨by decide +kernel, by decide +kernel⟩, List.mem_of_getElem? (i := 763) (by decide +kernel), List.mem_of_getElem? (i := 989) (by decide +kernel), List.mem_of_getElem? (i := 990) (by decide +kernel)⟩
theorem lw_p45 : lw_okq (⟨"SchemaRecordsModel", "readText", "()V"⟩, 31) := ⟨⟨by decide +kernel, by decide +kernel⟩, List.mem_of_getElem? (i := 763) (by decide +kernel), List.mem_of_getElem? (i := 993) (by decide +kernel), List.mem_of_getElem? (i := 994) (by decide +kernel)⟩
theorem lw_p46 : lw_okq (⟨"SchemaRecordsModel", "behind", "(I)I"⟩, 31) := ⟨⟨by decide +kernel, by decide +kernel⟩, List.mem_of_getElem? (i := 763) (by decide +kernel), List.mem_of_getElem? (i := 997) (by decide +kernel), List.mem_of_getElem? (i := 998) (by decide +kernel)⟩
theorem lw_p47 : lw_okq (⟨"SchemaRecordsModel", "say", "(I)V"⟩, 31) := ⟨⟨by decide +kernel, by decide +kernel⟩, List.mem_of_getElem? (i := 763) (by decide +kernel), List.mem_of_getElem? (i := 1001) (by decide +kernel), List.mem_of_getElem? (i := 1002) (by decide +kernel)⟩
def lw_privs_3 : List (MethodName × Nat) := [(⟨"SchemaRecordsModel", "fail", "(I)V"⟩, 31), (⟨"SchemaRecordsModel", "wantSign", "(I)V"⟩, 31), (⟨"SchemaRecordsModel", "takesSign", "(I)Z"⟩, 31), (⟨"SchemaRecordsModel", "empty", "()V"⟩, 31), (⟨"SchemaRecordsModel", "isField", "(I)Z"⟩, 31), (⟨"SchemaRecordsModel", "level", "(IZ)I"⟩, 31), (⟨"SchemaRecordsModel", "named", "(III)I"⟩, 31), (⟨"SchemaRecordsModel", "readGroup", "(II)V"⟩, 31), (⟨"SchemaRecordsModel", "end", "(II)V"⟩, 31), (⟨"SchemaRecordsModel", "misses", "(III)Z"⟩, 31), (⟨"SchemaRecordsModel", "readRow", "(II)V"⟩, 31), (⟨"SchemaRecordsModel", "readValue", "(II)V"⟩, 31), (⟨"SchemaRecordsModel", "node", "(IIJ)I"⟩, 31), (⟨"SchemaRecordsModel", "readText", "()V"⟩, 31), (⟨"SchemaRecordsModel", "behind", "(I)I"⟩, 31), (⟨"SchemaRecordsModel", "say", "(I)V"⟩, 31)]
theorem lw_r3 : ∀ q ∈ lw_privs_3, lw_okq q := List.forall_mem_cons.mpr ⟨lw_p32, List.forall_mem_cons.mpr ⟨lw_p33, List.forall_mem_cons.mpr ⟨lw_p34, List.forall_mem_cons.mpr ⟨lw_p35, List.forall_mem_cons.mpr ⟨lw_p36, List.forall_mem_cons.mpr ⟨lw_p37, List.forall_mem_cons.mpr ⟨lw_p38, List.forall_mem_cons.mpr ⟨lw_p39, List.forall_mem_cons.mpr ⟨lw_p40, List.forall_mem_cons.mpr ⟨lw_p41, List.forall_mem_cons.mpr ⟨lw_p42, List.forall_mem_cons.mpr ⟨lw_p43, List.forall_mem_cons.mpr ⟨lw_p44, List.forall_mem_cons.mpr ⟨lw_p45, List.forall_mem_cons.mpr ⟨lw_p46, List.forall_mem_cons.mpr ⟨lw_p47, fun _ h => absurd h List.not_mem_nil⟩⟩⟩⟩⟩⟩⟩⟩⟩⟩⟩⟩⟩⟩⟩⟩
theorem lw_p48 : lw_okq (⟨"SchemaRecordsModel", "readNumber", "(I)J"⟩, 31) := ⟨⟨by decide +kernel, by decide +kernel⟩, List.mem_of_getElem? (i := 763) (by decide +kernel), List.mem_of_getElem? (i := 1007) (by decide +kernel), List.mem_of_getElem? (i := 1008) (by decide +kernel)⟩
theorem lw_p49 : lw_okq (⟨"SchemaRecordsModel", "may", "(II)Z"⟩, 31) := ⟨⟨by decide +kernel, by decide +kernel⟩, List.mem_of_getElem? (i := 763) (by decide +kernel), List.mem_of_getElem? (i := 1023) (by decide +kernel), List.mem_of_getElem? (i := 1024) (by decide +kernel)⟩
theorem lw_p50 : lw_okq (⟨"SchemaRecordsModel", "isNode", "(I)Z"⟩, 31) := ⟨⟨by decide +kernel, by decide +kernel⟩, List.mem_of_getElem? (i := 763) (by decide +kernel), List.mem_of_getElem? (i := 1039) (by decide +kernel), List.mem_of_getElem? (i := 1040) (by decide +kernel)⟩
theorem lw_p51 : lw_okq (⟨"SchemaRecordsModel", "whole", "()Z"⟩, 31) := ⟨⟨by decide +kernel, by decide +kernel⟩, List.mem_of_getElem? (i := 763) (by decide +kernel), List.mem_of_getElem? (i := 1055) (by decide +kernel), List.mem_of_getElem? (i := 1056) (by decide +kernel)⟩
theorem lw_p52 : lw_okq (⟨"SchemaRecordsModel", "putGroup", "(I)V"⟩, 31) := ⟨⟨by decide +kernel, by decide +kernel⟩, List.mem_of_getElem? (i := 763) (by decide +kernel), List.mem_of_getElem? (i := 1063) (by decide +kernel), List.mem_of_getElem? (i := 1064) (by decide +kernel)⟩
theorem lw_p53 : lw_okq (⟨"SchemaRecordsModel", "put", "(I)V"⟩, 31) := ⟨⟨by decide +kernel, by decide +kernel⟩, List.mem_of_getElem? (i := 763) (by decide +kernel), List.mem_of_getElem? (i := 1067) (by decide +kernel), List.mem_of_getElem? (i := 1068) (by decide +kernel)⟩
theorem lw_p54 : lw_okq (⟨"SchemaRecordsModel", "putValue", "(I)V"⟩, 31) := ⟨⟨by decide +kernel, by decide +kernel⟩, List.mem_of_getElem? (i := 763) (by decide +kernel), List.mem_of_getElem? (i := 1071) (by decide +kernel), List.mem_of_getElem? (i := 1072) (by decide +kernel)⟩
theorem lw_p55 : lw_okq (⟨"SchemaRecordsModel", "putText", "(I)V"⟩, 31) := ⟨⟨by decide +kernel, by decide +kernel⟩, List.mem_of_getElem? (i := 763) (by decide +kernel), List.mem_of_getElem? (i := 1075) (by decide +kernel), List.mem_of_getElem? (i := 1076) (by decide +kernel)⟩
theorem lw_p56 : lw_okq (⟨"SchemaRecordsModel", "putHex", "(I)V"⟩, 31) := ⟨⟨by decide +kernel, by decide +kernel⟩, List.mem_of_getElem? (i := 763) (by decide +kernel), List.mem_of_getElem? (i := 1079) (by decide +kernel), List.mem_of_getElem? (i := 1080) (by decide +kernel)⟩
theorem lw_p57 : lw_okq (⟨"SchemaRecordsModel", "putWord", "(J)V"⟩, 31) := ⟨⟨by decide +kernel, by decide +kernel⟩, List.mem_of_getElem? (i := 763) (by decide +kernel), List.mem_of_getElem? (i := 1083) (by decide +kernel), List.mem_of_getElem? (i := 1084) (by decide +kernel)⟩
theorem lw_p58 : lw_okq (⟨"SchemaRecordsModel", "putNumber", "(J)V"⟩, 31) := ⟨⟨by decide +kernel, by decide +kernel⟩, List.mem_of_getElem? (i := 763) (by decide +kernel), List.mem_of_getElem? (i := 1088) (by decide +kernel), List.mem_of_getElem? (i := 1089) (by decide +kernel)⟩
def lw_privs_4 : List (MethodName × Nat) := [(⟨"SchemaRecordsModel", "readNumber", "(I)J"⟩, 31), (⟨"SchemaRecordsModel", "may", "(II)Z"⟩, 31), (⟨"SchemaRecordsModel", "isNode", "(I)Z"⟩, 31), (⟨"SchemaRecordsModel", "whole", "()Z"⟩, 31), (⟨"SchemaRecordsModel", "putGroup", "(I)V"⟩, 31), (⟨"SchemaRecordsModel", "put", "(I)V"⟩, 31), (⟨"SchemaRecordsModel", "putValue", "(I)V"⟩, 31), (⟨"SchemaRecordsModel", "putText", "(I)V"⟩, 31), (⟨"SchemaRecordsModel", "putHex", "(I)V"⟩, 31), (⟨"SchemaRecordsModel", "putWord", "(J)V"⟩, 31), (⟨"SchemaRecordsModel", "putNumber", "(J)V"⟩, 31)]
theorem lw_r4 : ∀ q ∈ lw_privs_4, lw_okq q := List.forall_mem_cons.mpr ⟨lw_p48, List.forall_mem_cons.mpr ⟨lw_p49, List.forall_mem_cons.mpr ⟨lw_p50, List.forall_mem_cons.mpr ⟨lw_p51, List.forall_mem_cons.mpr ⟨lw_p52, List.forall_mem_cons.mpr ⟨lw_p53, List.forall_mem_cons.mpr ⟨lw_p54, List.forall_mem_cons.mpr ⟨lw_p55, List.forall_mem_cons.mpr ⟨lw_p56, List.forall_mem_cons.mpr ⟨lw_p57, List.forall_mem_cons.mpr ⟨lw_p58, fun _ h => absurd h List.not_mem_nil⟩⟩⟩⟩⟩⟩⟩⟩⟩⟩⟩
def lw_privs : List (MethodName × Nat) := lw_privs_1 ++ (lw_privs_2 ++ (lw_privs_3 ++ (lw_privs_4)))
def lw_tbl : List Cond := k2_sels lw_privs ++ tables_1
theorem lw_privs_ok : ∀ q ∈ lw_privs, lw_okq q := by
  show ∀ q ∈ lw_privs_1 ++ (lw_privs_2 ++ (lw_privs_3 ++ (lw_privs_4))), lw_okq q
  exact List.forall_mem_append.mpr ⟨lw_r1, List.forall_mem_append.mpr ⟨lw_r2, List.forall_mem_append.mpr ⟨lw_r3, lw_r4⟩⟩⟩
def R_X : String := "SchemaRecords"
def R_ByteRow : String := "SchemaRecords$ByteRow"
def R_Field : String := "SchemaRecords$Field"
def R_Node : String := "SchemaRecords$Node"
def R_NodeRow : String := "SchemaRecords$NodeRow"
def R_RecordReader : String := "SchemaRecords$RecordReader"
def R_RecordWriter : String := "SchemaRecords$RecordWriter"
def R_Scanner : String := "SchemaRecords$Scanner"
def R_Schema : String := "SchemaRecords$Schema"
def R_SchemaReader : String := "SchemaRecords$SchemaReader"
def R_Tape : String := "SchemaRecords$Tape"
def R_L : String := "SchemaRecordsLaw"
def R_M : String := "SchemaRecordsModel"
def R_J_B : String := "[B"
def R_JM : String := "java/lang/Math"
def R_JO : String := "java/lang/Object"
def R_JS : String := "java/lang/String"
def R_JL : String := "java/lang/StringLatin1"
def R_JU : String := "java/lang/StringUTF16"
def R_JY : String := "java/lang/System"
def R_JA : String := "java/util/Arrays"
def R_JP : String := "jdk/internal/util/Preconditions"
def F_X : u_T := fun k => match k with
  | 0 => ("SchemaRecords", "tape", "LSchemaRecords$Tape;", true)
  | 1 => ("SchemaRecords", "written", "LSchemaRecords$ByteRow;", true)
  | 2 => ("SchemaRecords", "known", "LSchemaRecords$Schema;", false)
  | 3 => ("SchemaRecords", "present", "LSchemaRecords$NodeRow;", false)
  | _ => ("SchemaRecords", "spare", "LSchemaRecords$NodeRow;", false)
def t_X : Nat → FieldType := fun k => match k with
  | 0 => .object "SchemaRecords$Tape"
  | 1 => .object "SchemaRecords$ByteRow"
  | 2 => .object "SchemaRecords$Schema"
  | 3 => .object "SchemaRecords$NodeRow"
  | _ => .object "SchemaRecords$NodeRow"
theorem n_X : ∀ a, a < 5 → ∀ b, b < 5 → a ≠ b → (F_X a).2.1 ≠ (F_X b).2.1 := by decide +kernel
theorem t_X_ok : ∀ k, k < 5 → parseFieldDescriptor (F_X k).2.2.1 = some (t_X k) := by decide +kernel
def F_Tape : u_T := fun k => match k with
  | 0 => ("SchemaRecords$Tape", "bytes", "[B", true)
  | _ => ("SchemaRecords$Tape", "size", "I", false)
def t_Tape : Nat → FieldType := fun k => match k with
  | 0 => .array .byte
  | _ => .int
theorem n_Tape : ∀ a, a < 2 → ∀ b, b < 2 → a ≠ b → (F_Tape a).2.1 ≠ (F_Tape b).2.1 := by decide +kernel
theorem t_Tape_ok : ∀ k, k < 2 → parseFieldDescriptor (F_Tape k).2.2.1 = some (t_Tape k) := by decide +kernel
def F_ByteRow : u_T := fun k => match k with
  | 0 => ("SchemaRecords$ByteRow", "bytes", "[B", false)
  | _ => ("SchemaRecords$ByteRow", "size", "I", false)
def t_ByteRow : Nat → FieldType := fun k => match k with
  | 0 => .array .byte
  | _ => .int
theorem n_ByteRow : ∀ a, a < 2 → ∀ b, b < 2 → a ≠ b → (F_ByteRow a).2.1 ≠ (F_ByteRow b).2.1 := by decide +kernel
theorem t_ByteRow_ok : ∀ k, k < 2 → parseFieldDescriptor (F_ByteRow k).2.2.1 = some (t_ByteRow k) := by decide +kernel
def F_Schema : u_T := fun k => match k with
  | 0 => ("SchemaRecords$Schema", "fields", "[LSchemaRecords$Field;", true)
  | 1 => ("SchemaRecords$Schema", "columns", "[I", true)
  | 2 => ("SchemaRecords$Schema", "size", "I", false)
  | 3 => ("SchemaRecords$Schema", "columnCount", "I", false)
  | _ => ("SchemaRecords$Schema", "requiredAtTop", "I", false)
def t_Schema : Nat → FieldType := fun k => match k with
  | 0 => .array (.object "SchemaRecords$Field")
  | 1 => .array .int
  | 2 => .int
  | 3 => .int
  | _ => .int
theorem n_Schema : ∀ a, a < 5 → ∀ b, b < 5 → a ≠ b → (F_Schema a).2.1 ≠ (F_Schema b).2.1 := by decide +kernel
theorem t_Schema_ok : ∀ k, k < 5 → parseFieldDescriptor (F_Schema k).2.2.1 = some (t_Schema k) := by decide +kernel
def F_Field : u_T := fun k => match k with
  | 0 => ("SchemaRecords$Field", "number", "I", true)
  | 1 => ("SchemaRecords$Field", "kind", "I", true)
  | 2 => ("SchemaRecords$Field", "type", "I", true)
  | 3 => ("SchemaRecords$Field", "group", "I", true)
  | 4 => ("SchemaRecords$Field", "name", "[B", true)
  | 5 => ("SchemaRecords$Field", "column", "I", false)
  | 6 => ("SchemaRecords$Field", "repetition", "I", false)
  | 7 => ("SchemaRecords$Field", "definition", "I", false)
  | _ => ("SchemaRecords$Field", "requiredInside", "I", false)
def t_Field : Nat → FieldType := fun k => match k with
  | 0 => .int
  | 1 => .int
  | 2 => .int
  | 3 => .int
  | 4 => .array .byte
  | 5 => .int
  | 6 => .int
  | 7 => .int
  | _ => .int
theorem n_Field : ∀ a, a < 9 → ∀ b, b < 9 → a ≠ b → (F_Field a).2.1 ≠ (F_Field b).2.1 := by decide +kernel
theorem t_Field_ok : ∀ k, k < 9 → parseFieldDescriptor (F_Field k).2.2.1 = some (t_Field k) := by decide +kernel
def F_NodeRow : u_T := fun k => match k with
  | 0 => ("SchemaRecords$NodeRow", "row", "[LSchemaRecords$Node;", true)
  | 1 => ("SchemaRecords$NodeRow", "size", "I", false)
  | _ => ("SchemaRecords$NodeRow", "textBytes", "I", false)
def t_NodeRow : Nat → FieldType := fun k => match k with
  | 0 => .array (.object "SchemaRecords$Node")
  | 1 => .int
  | _ => .int
theorem n_NodeRow : ∀ a, a < 3 → ∀ b, b < 3 → a ≠ b → (F_NodeRow a).2.1 ≠ (F_NodeRow b).2.1 := by decide +kernel
theorem t_NodeRow_ok : ∀ k, k < 3 → parseFieldDescriptor (F_NodeRow k).2.2.1 = some (t_NodeRow k) := by decide +kernel
def F_Node : u_T := fun k => match k with
  | 0 => ("SchemaRecords$Node", "field", "I", true)
  | 1 => ("SchemaRecords$Node", "parent", "I", true)
  | 2 => ("SchemaRecords$Node", "number", "J", true)
  | 3 => ("SchemaRecords$Node", "text", "[B", true)
  | 4 => ("SchemaRecords$Node", "children", "I", false)
  | 5 => ("SchemaRecords$Node", "latestField", "I", false)
  | _ => ("SchemaRecords$Node", "requiredThere", "I", false)
def t_Node : Nat → FieldType := fun k => match k with
  | 0 => .int
  | 1 => .int
  | 2 => .long
  | 3 => .array .byte
  | 4 => .int
  | 5 => .int
  | _ => .int
theorem n_Node : ∀ a, a < 7 → ∀ b, b < 7 → a ≠ b → (F_Node a).2.1 ≠ (F_Node b).2.1 := by decide +kernel
theorem t_Node_ok : ∀ k, k < 7 → parseFieldDescriptor (F_Node k).2.2.1 = some (t_Node k) := by decide +kernel
def F_Scanner : u_T := fun k => match k with
  | 0 => ("SchemaRecords$Scanner", "bytes", "[B", true)
  | 1 => ("SchemaRecords$Scanner", "size", "I", true)
  | 2 => ("SchemaRecords$Scanner", "place", "I", false)
  | 3 => ("SchemaRecords$Scanner", "fault", "I", false)
  | 4 => ("SchemaRecords$Scanner", "wordStart", "I", false)
  | _ => ("SchemaRecords$Scanner", "wordEnd", "I", false)
def t_Scanner : Nat → FieldType := fun k => match k with
  | 0 => .array .byte
  | 1 => .int
  | 2 => .int
  | 3 => .int
  | 4 => .int
  | _ => .int
theorem n_Scanner : ∀ a, a < 6 → ∀ b, b < 6 → a ≠ b → (F_Scanner a).2.1 ≠ (F_Scanner b).2.1 := by decide +kernel
theorem t_Scanner_ok : ∀ k, k < 6 → parseFieldDescriptor (F_Scanner k).2.2.1 = some (t_Scanner k) := by decide +kernel
def F_SchemaReader : u_T := fun k => match k with
  | 0 => ("SchemaRecords$SchemaReader", "text", "LSchemaRecords$Scanner;", true)
  | _ => ("SchemaRecords$SchemaReader", "schema", "LSchemaRecords$Schema;", true)
def t_SchemaReader : Nat → FieldType := fun k => match k with
  | 0 => .object "SchemaRecords$Scanner"
  | _ => .object "SchemaRecords$Schema"
theorem n_SchemaReader : ∀ a, a < 2 → ∀ b, b < 2 → a ≠ b → (F_SchemaReader a).2.1 ≠ (F_SchemaReader b).2.1 := by decide +kernel
theorem t_SchemaReader_ok : ∀ k, k < 2 → parseFieldDescriptor (F_SchemaReader k).2.2.1 = some (t_SchemaReader k) := by decide +kernel
def F_RecordReader : u_T := fun k => match k with
  | 0 => ("SchemaRecords$RecordReader", "text", "LSchemaRecords$Scanner;", true)
  | 1 => ("SchemaRecords$RecordReader", "schema", "LSchemaRecords$Schema;", true)
  | 2 => ("SchemaRecords$RecordReader", "nodeRow", "LSchemaRecords$NodeRow;", true)
  | 3 => ("SchemaRecords$RecordReader", "textRow", "[B", true)
  | _ => ("SchemaRecords$RecordReader", "number", "J", false)
def t_RecordReader : Nat → FieldType := fun k => match k with
  | 0 => .object "SchemaRecords$Scanner"
  | 1 => .object "SchemaRecords$Schema"
  | 2 => .object "SchemaRecords$NodeRow"
  | 3 => .array .byte
  | _ => .long
theorem n_RecordReader : ∀ a, a < 5 → ∀ b, b < 5 → a ≠ b → (F_RecordReader a).2.1 ≠ (F_RecordReader b).2.1 := by decide +kernel
theorem t_RecordReader_ok : ∀ k, k < 5 → parseFieldDescriptor (F_RecordReader k).2.2.1 = some (t_RecordReader k) := by decide +kernel
def F_RecordWriter : u_T := fun k => match k with
  | 0 => ("SchemaRecords$RecordWriter", "schema", "LSchemaRecords$Schema;", true)
  | 1 => ("SchemaRecords$RecordWriter", "nodeRow", "LSchemaRecords$NodeRow;", true)
  | _ => ("SchemaRecords$RecordWriter", "out", "LSchemaRecords$ByteRow;", true)
def t_RecordWriter : Nat → FieldType := fun k => match k with
  | 0 => .object "SchemaRecords$Schema"
  | 1 => .object "SchemaRecords$NodeRow"
  | _ => .object "SchemaRecords$ByteRow"
theorem n_RecordWriter : ∀ a, a < 3 → ∀ b, b < 3 → a ≠ b → (F_RecordWriter a).2.1 ≠ (F_RecordWriter b).2.1 := by decide +kernel
theorem t_RecordWriter_ok : ∀ k, k < 3 → parseFieldDescriptor (F_RecordWriter k).2.2.1 = some (t_RecordWriter k) := by decide +kernel
def F_M : u_T := fun k => match k with
  | 0 => ("SchemaRecordsModel", "code", "I", false)
  | 1 => ("SchemaRecordsModel", "tape", "[I", true)
  | 2 => ("SchemaRecordsModel", "text", "[I", true)
  | 3 => ("SchemaRecordsModel", "taped", "I", false)
  | 4 => ("SchemaRecordsModel", "size", "I", false)
  | 5 => ("SchemaRecordsModel", "rows", "[[I", true)
  | 6 => ("SchemaRecordsModel", "fresh", "[[I", true)
  | 7 => ("SchemaRecordsModel", "letters", "[I", true)
  | 8 => ("SchemaRecordsModel", "freshLetters", "[I", true)
  | 9 => ("SchemaRecordsModel", "fields", "I", false)
  | 10 => ("SchemaRecordsModel", "columns", "I", false)
  | 11 => ("SchemaRecordsModel", "freshFields", "I", false)
  | 12 => ("SchemaRecordsModel", "freshColumns", "I", false)
  | 13 => ("SchemaRecordsModel", "nodeField", "[I", true)
  | 14 => ("SchemaRecordsModel", "nodeParent", "[I", true)
  | 15 => ("SchemaRecordsModel", "nodeFrom", "[I", true)
  | 16 => ("SchemaRecordsModel", "nodeSize", "[I", true)
  | 17 => ("SchemaRecordsModel", "nodeValue", "[J", true)
  | 18 => ("SchemaRecordsModel", "nodes", "I", false)
  | 19 => ("SchemaRecordsModel", "said", "I", false)
  | 20 => ("SchemaRecordsModel", "texts", "[I", true)
  | 21 => ("SchemaRecordsModel", "oldField", "[I", true)
  | 22 => ("SchemaRecordsModel", "oldParent", "[I", true)
  | 23 => ("SchemaRecordsModel", "oldFrom", "[I", true)
  | 24 => ("SchemaRecordsModel", "oldSize", "[I", true)
  | 25 => ("SchemaRecordsModel", "oldValue", "[J", true)
  | 26 => ("SchemaRecordsModel", "oldTexts", "[I", true)
  | 27 => ("SchemaRecordsModel", "out", "[I", true)
  | 28 => ("SchemaRecordsModel", "outSize", "I", false)
  | 29 => ("SchemaRecordsModel", "at", "I", false)
  | _ => ("SchemaRecordsModel", "ill", "I", false)
def t_M : Nat → FieldType := fun k => match k with
  | 0 => .int
  | 1 => .array .int
  | 2 => .array .int
  | 3 => .int
  | 4 => .int
  | 5 => .array (.array .int)
  | 6 => .array (.array .int)
  | 7 => .array .int
  | 8 => .array .int
  | 9 => .int
  | 10 => .int
  | 11 => .int
  | 12 => .int
  | 13 => .array .int
  | 14 => .array .int
  | 15 => .array .int
  | 16 => .array .int
  | 17 => .array .long
  | 18 => .int
  | 19 => .int
  | 20 => .array .int
  | 21 => .array .int
  | 22 => .array .int
  | 23 => .array .int
  | 24 => .array .int
  | 25 => .array .long
  | 26 => .array .int
  | 27 => .array .int
  | 28 => .int
  | 29 => .int
  | _ => .int
theorem n_M : ∀ a, a < 31 → ∀ b, b < 31 → a ≠ b → (F_M a).2.1 ≠ (F_M b).2.1 := by decide +kernel
theorem t_M_ok : ∀ k, k < 31 → parseFieldDescriptor (F_M k).2.2.1 = some (t_M k) := by decide +kernel
abbrev cls : List vw_C := [(R_X, F_X, 5), (R_Tape, F_Tape, 2), (R_ByteRow, F_ByteRow, 2), (R_Schema, F_Schema, 5), (R_Field, F_Field, 9), (R_NodeRow, F_NodeRow, 3), (R_Node, F_Node, 7), (R_Scanner, F_Scanner, 6), (R_SchemaReader, F_SchemaReader, 2), (R_RecordReader, F_RecordReader, 5), (R_RecordWriter, F_RecordWriter, 3), (R_M, F_M, 31)]
def y_X_init : MethodName := ⟨R_X, "<init>", "()V"⟩
def y_JO_init : MethodName := ⟨R_JO, "<init>", "()V"⟩
def y_Tape_init : MethodName := ⟨R_Tape, "<init>", "()V"⟩
def y_ByteRow_init : MethodName := ⟨R_ByteRow, "<init>", "()V"⟩
def y_Schema_init : MethodName := ⟨R_Schema, "<init>", "()V"⟩
def y_NodeRow_init : MethodName := ⟨R_NodeRow, "<init>", "()V"⟩
def y_NodeRow_clear : MethodName := ⟨R_NodeRow, "clear", "()V"⟩
def y_Node_init : MethodName := ⟨R_Node, "<init>", "(IIJ[B)V"⟩
def y_X_feed : MethodName := ⟨R_X, "feed", "(IIIII)Z"⟩
def y_Tape_hasRoom : MethodName := ⟨R_Tape, "hasRoom", "()Z"⟩
def y_Tape_putFour : MethodName := ⟨R_Tape, "putFour", "(I)V"⟩
def y_X_schema : MethodName := ⟨R_X, "schema", "(I)I"⟩
def y_Tape_cut : MethodName := ⟨R_Tape, "cut", "(I)LSchemaRecords$Scanner;"⟩
def y_Scanner_init : MethodName := ⟨R_Scanner, "<init>", "([BI)V"⟩
def y_SchemaReader_init : MethodName := ⟨R_SchemaReader, "<init>", "(LSchemaRecords$Scanner;LSchemaRecords$Schema;)V"⟩
def y_SchemaReader_readSchema : MethodName := ⟨R_SchemaReader, "readSchema", "()Z"⟩
def y_Scanner_next : MethodName := ⟨R_Scanner, "next", "()I"⟩
def y_Scanner_here : MethodName := ⟨R_Scanner, "here", "()I"⟩
def y_SchemaReader_readField : MethodName := ⟨R_SchemaReader, "readField", "(II)Z"⟩
def y_SchemaReader_readKind : MethodName := ⟨R_SchemaReader, "readKind", "()I"⟩
def y_Scanner_takeWord : MethodName := ⟨R_Scanner, "takeWord", "()Z"⟩
def y_Scanner_isLetter : MethodName := ⟨R_Scanner, "isLetter", "(I)Z"⟩
def y_Scanner_failHere : MethodName := ⟨R_Scanner, "failHere", "()Z"⟩
def y_Scanner_fail : MethodName := ⟨R_Scanner, "fail", "(I)Z"⟩
def y_Scanner_isOfWord : MethodName := ⟨R_Scanner, "isOfWord", "(I)Z"⟩
def y_Scanner_isDigit : MethodName := ⟨R_Scanner, "isDigit", "(I)Z"⟩
def y_Scanner_wordIs : MethodName := ⟨R_Scanner, "wordIs", "(Ljava/lang/String;)Z"⟩
def y_JS_length : MethodName := ⟨R_JS, "length", "()I"⟩
def y_JS_coder : MethodName := ⟨R_JS, "coder", "()B"⟩
def y_Scanner_byteAt : MethodName := ⟨R_Scanner, "byteAt", "(I)I"⟩
def y_JS_charAt : MethodName := ⟨R_JS, "charAt", "(I)C"⟩
def y_JS_isLatin1 : MethodName := ⟨R_JS, "isLatin1", "()Z"⟩
def y_JL_charAt : MethodName := ⟨R_JL, "charAt", "([BI)C"⟩
def y_JS_checkIndex : MethodName := ⟨R_JS, "checkIndex", "(II)V"⟩
def y_JP_checkIndex : MethodName := ⟨R_JP, "checkIndex", "(IILjava/util/function/BiFunction;)I"⟩
def y_JU_charAt : MethodName := ⟨R_JU, "charAt", "([BI)C"⟩
def y_JU_checkIndex : MethodName := ⟨R_JU, "checkIndex", "(I[B)V"⟩
def y_JU_length : MethodName := ⟨R_JU, "length", "([B)I"⟩
def y_JU_getChar : MethodName := ⟨R_JU, "getChar", "([BI)C"⟩
def y_Scanner_failAtWord : MethodName := ⟨R_Scanner, "failAtWord", "()Z"⟩
def y_SchemaReader_readType : MethodName := ⟨R_SchemaReader, "readType", "()I"⟩
def y_SchemaReader_nameStands : MethodName := ⟨R_SchemaReader, "nameStands", "(III)Z"⟩
def y_Schema_hasRoomFor : MethodName := ⟨R_Schema, "hasRoomFor", "(I)Z"⟩
def y_Schema_named : MethodName := ⟨R_Schema, "named", "(ILSchemaRecords$Scanner;II)I"⟩
def y_Schema_fieldAt : MethodName := ⟨R_Schema, "fieldAt", "(I)LSchemaRecords$Field;"⟩
def y_Field_isNamed : MethodName := ⟨R_Field, "isNamed", "(LSchemaRecords$Scanner;II)Z"⟩
def y_Scanner_copy : MethodName := ⟨R_Scanner, "copy", "(II)[B"⟩
def y_JA_copyOfRange : MethodName := ⟨R_JA, "copyOfRange", "([BII)[B"⟩
def y_JA_copyOfRangeByte : MethodName := ⟨R_JA, "copyOfRangeByte", "([BII)[B"⟩
def y_JA_checkLength : MethodName := ⟨R_JA, "checkLength", "(II)V"⟩
def y_JM_min : MethodName := ⟨R_JM, "min", "(II)I"⟩
def y_Schema_append : MethodName := ⟨R_Schema, "append", "(III[B)I"⟩
def y_Field_init : MethodName := ⟨R_Field, "<init>", "(IIII[B)V"⟩
def y_Schema_setLevels : MethodName := ⟨R_Schema, "setLevels", "(LSchemaRecords$Field;)V"⟩
def y_SchemaReader_readGroup : MethodName := ⟨R_SchemaReader, "readGroup", "(II)Z"⟩
def y_Scanner_takeSign : MethodName := ⟨R_Scanner, "takeSign", "(I)Z"⟩
def y_X_count : MethodName := ⟨R_X, "count", "(I)I"⟩
def y_X_field : MethodName := ⟨R_X, "field", "(II)I"⟩
def y_Field_property : MethodName := ⟨R_Field, "property", "(I)I"⟩
def y_X_letter : MethodName := ⟨R_X, "letter", "(II)I"⟩
def y_X_byteOf : MethodName := ⟨R_X, "byteOf", "([BI)I"⟩
def y_X_column : MethodName := ⟨R_X, "column", "(I)I"⟩
def y_Schema_fieldOfColumn : MethodName := ⟨R_Schema, "fieldOfColumn", "(I)I"⟩
def y_X_find : MethodName := ⟨R_X, "find", "(II)I"⟩
def y_X_record : MethodName := ⟨R_X, "record", "(I)I"⟩
def y_RecordReader_init : MethodName := ⟨R_RecordReader, "<init>", "(LSchemaRecords$Scanner;LSchemaRecords$Schema;LSchemaRecords$NodeRow;)V"⟩
def y_RecordReader_readMembers : MethodName := ⟨R_RecordReader, "readMembers", "(III)Z"⟩
def y_RecordReader_readName : MethodName := ⟨R_RecordReader, "readName", "(II)LSchemaRecords$Field;"⟩
def y_Schema_meantFrom : MethodName := ⟨R_Schema, "meantFrom", "(IILSchemaRecords$Scanner;)I"⟩
def y_RecordReader_readField : MethodName := ⟨R_RecordReader, "readField", "(LSchemaRecords$Field;II)Z"⟩
def y_RecordReader_readValue : MethodName := ⟨R_RecordReader, "readValue", "(LSchemaRecords$Field;II)Z"⟩
def y_RecordReader_readBool : MethodName := ⟨R_RecordReader, "readBool", "()Z"⟩
def y_RecordReader_keep : MethodName := ⟨R_RecordReader, "keep", "(LSchemaRecords$Field;I[BI)Z"⟩
def y_NodeRow_append : MethodName := ⟨R_NodeRow, "append", "(ILSchemaRecords$Field;J[B)I"⟩
def y_NodeRow_nodeAt : MethodName := ⟨R_NodeRow, "nodeAt", "(I)LSchemaRecords$Node;"⟩
def y_RecordReader_readNumber : MethodName := ⟨R_RecordReader, "readNumber", "(J)Z"⟩
def y_Scanner_step : MethodName := ⟨R_Scanner, "step", "(I)V"⟩
def y_RecordReader_readText : MethodName := ⟨R_RecordReader, "readText", "()I"⟩
def y_RecordReader_readEscape : MethodName := ⟨R_RecordReader, "readEscape", "()I"⟩
def y_RecordReader_failEscape : MethodName := ⟨R_RecordReader, "failEscape", "(I)I"⟩
def y_RecordReader_hexDigit : MethodName := ⟨R_RecordReader, "hexDigit", "(I)I"⟩
def y_RecordReader_readPlain : MethodName := ⟨R_RecordReader, "readPlain", "(I)I"⟩
def y_JA_copyOf : MethodName := ⟨R_JA, "copyOf", "([BI)[B"⟩
def y_Schema_hasRequiredFrom : MethodName := ⟨R_Schema, "hasRequiredFrom", "(II)Z"⟩
def y_Scanner_takeEnd : MethodName := ⟨R_Scanner, "takeEnd", "()Z"⟩
def y_X_begin : MethodName := ⟨R_X, "begin", "()V"⟩
def y_X_add : MethodName := ⟨R_X, "add", "(IIJ)I"⟩
def y_Field_hasInRange : MethodName := ⟨R_Field, "hasInRange", "(J)Z"⟩
def y_NodeRow_mayTake : MethodName := ⟨R_NodeRow, "mayTake", "(ILSchemaRecords$Field;)Z"⟩
def y_NodeRow_isOpen : MethodName := ⟨R_NodeRow, "isOpen", "(I)Z"⟩
def y_Field_kept : MethodName := ⟨R_Field, "kept", "(J)J"⟩
def y_X_addText : MethodName := ⟨R_X, "addText", "(III)I"⟩
def y_X_nodes : MethodName := ⟨R_X, "nodes", "()I"⟩
def y_X_node : MethodName := ⟨R_X, "node", "(II)I"⟩
def y_Node_property : MethodName := ⟨R_Node, "property", "(I)I"⟩
def y_X_value : MethodName := ⟨R_X, "value", "(I)J"⟩
def y_X_textByte : MethodName := ⟨R_X, "textByte", "(II)I"⟩
def y_X_isWhole : MethodName := ⟨R_X, "isWhole", "()Z"⟩
def y_NodeRow_lacksNothing : MethodName := ⟨R_NodeRow, "lacksNothing", "(LSchemaRecords$Schema;)Z"⟩
def y_Schema_requiredOf : MethodName := ⟨R_Schema, "requiredOf", "(I)I"⟩
def y_X_write : MethodName := ⟨R_X, "write", "()I"⟩
def y_ByteRow_clear : MethodName := ⟨R_ByteRow, "clear", "()V"⟩
def y_RecordWriter_init : MethodName := ⟨R_RecordWriter, "<init>", "(LSchemaRecords$Schema;LSchemaRecords$NodeRow;LSchemaRecords$ByteRow;)V"⟩
def y_RecordWriter_putMembers : MethodName := ⟨R_RecordWriter, "putMembers", "(II)I"⟩
def y_ByteRow_put : MethodName := ⟨R_ByteRow, "put", "(I)V"⟩
def y_RecordWriter_putBetween : MethodName := ⟨R_RecordWriter, "putBetween", "(LSchemaRecords$Field;LSchemaRecords$Field;)V"⟩
def y_RecordWriter_putClosing : MethodName := ⟨R_RecordWriter, "putClosing", "(LSchemaRecords$Field;)V"⟩
def y_RecordWriter_putBytes : MethodName := ⟨R_RecordWriter, "putBytes", "([B)V"⟩
def y_RecordWriter_putLeaf : MethodName := ⟨R_RecordWriter, "putLeaf", "(ILSchemaRecords$Node;LSchemaRecords$Field;)I"⟩
def y_RecordWriter_putText : MethodName := ⟨R_RecordWriter, "putText", "([B)V"⟩
def y_RecordWriter_putTextByte : MethodName := ⟨R_RecordWriter, "putTextByte", "(I)V"⟩
def y_RecordWriter_putWord : MethodName := ⟨R_RecordWriter, "putWord", "(Ljava/lang/String;)V"⟩
def y_RecordWriter_hexSign : MethodName := ⟨R_RecordWriter, "hexSign", "(I)I"⟩
def y_RecordWriter_putNumber : MethodName := ⟨R_RecordWriter, "putNumber", "(J)V"⟩
def y_X_output : MethodName := ⟨R_X, "output", "(I)I"⟩
def y_ByteRow_byteAt : MethodName := ⟨R_ByteRow, "byteAt", "(I)I"⟩
def y_M_init : MethodName := ⟨R_M, "<init>", "()V"⟩
def y_M_feed : MethodName := ⟨R_M, "feed", "(IIIII)Z"⟩
def y_M_schema : MethodName := ⟨R_M, "schema", "(I)I"⟩
def y_M_takes : MethodName := ⟨R_M, "takes", "(I)Z"⟩
def y_M_readField : MethodName := ⟨R_M, "readField", "(II)V"⟩
def y_M_blanks : MethodName := ⟨R_M, "blanks", "()V"⟩
def y_M_look : MethodName := ⟨R_M, "look", "()I"⟩
def y_M_takesWord : MethodName := ⟨R_M, "takesWord", "(J)Z"⟩
def y_M_isWord : MethodName := ⟨R_M, "isWord", "(J)Z"⟩
def y_M_word : MethodName := ⟨R_M, "word", "()I"⟩
def y_M_isLetter : MethodName := ⟨R_M, "isLetter", "(I)Z"⟩
def y_M_isDigit : MethodName := ⟨R_M, "isDigit", "(I)Z"⟩
def y_M_fail : MethodName := ⟨R_M, "fail", "(I)V"⟩
def y_M_wantSign : MethodName := ⟨R_M, "wantSign", "(I)V"⟩
def y_M_takesSign : MethodName := ⟨R_M, "takesSign", "(I)Z"⟩
def y_M_empty : MethodName := ⟨R_M, "empty", "()V"⟩
def y_M_count : MethodName := ⟨R_M, "count", "(I)I"⟩
def y_M_field : MethodName := ⟨R_M, "field", "(II)I"⟩
def y_M_isField : MethodName := ⟨R_M, "isField", "(I)Z"⟩
def y_M_level : MethodName := ⟨R_M, "level", "(IZ)I"⟩
def y_M_letter : MethodName := ⟨R_M, "letter", "(II)I"⟩
def y_M_column : MethodName := ⟨R_M, "column", "(I)I"⟩
def y_M_find : MethodName := ⟨R_M, "find", "(II)I"⟩
def y_M_named : MethodName := ⟨R_M, "named", "(III)I"⟩
def y_M_record : MethodName := ⟨R_M, "record", "(I)I"⟩
def y_M_readGroup : MethodName := ⟨R_M, "readGroup", "(II)V"⟩
def y_M_end : MethodName := ⟨R_M, "end", "(II)V"⟩
def y_M_misses : MethodName := ⟨R_M, "misses", "(III)Z"⟩
def y_M_readRow : MethodName := ⟨R_M, "readRow", "(II)V"⟩
def y_M_readValue : MethodName := ⟨R_M, "readValue", "(II)V"⟩
def y_M_node : MethodName := ⟨R_M, "node", "(IIJ)I"⟩
def y_M_readText : MethodName := ⟨R_M, "readText", "()V"⟩
def y_M_behind : MethodName := ⟨R_M, "behind", "(I)I"⟩
def y_M_say : MethodName := ⟨R_M, "say", "(I)V"⟩
def y_M_readNumber : MethodName := ⟨R_M, "readNumber", "(I)J"⟩
def y_M_begin : MethodName := ⟨R_M, "begin", "()V"⟩
def y_M_add : MethodName := ⟨R_M, "add", "(IIJ)I"⟩
def y_M_may : MethodName := ⟨R_M, "may", "(II)Z"⟩
def y_M_addText : MethodName := ⟨R_M, "addText", "(III)I"⟩
def y_M_nodes : MethodName := ⟨R_M, "nodes", "()I"⟩
def y_M_node2 : MethodName := ⟨R_M, "node", "(II)I"⟩
def y_M_isNode : MethodName := ⟨R_M, "isNode", "(I)Z"⟩
def y_M_value : MethodName := ⟨R_M, "value", "(I)J"⟩
def y_M_textByte : MethodName := ⟨R_M, "textByte", "(II)I"⟩
def y_M_isWhole : MethodName := ⟨R_M, "isWhole", "()Z"⟩
def y_M_whole : MethodName := ⟨R_M, "whole", "()Z"⟩
def y_M_write : MethodName := ⟨R_M, "write", "()I"⟩
def y_M_putGroup : MethodName := ⟨R_M, "putGroup", "(I)V"⟩
def y_M_put : MethodName := ⟨R_M, "put", "(I)V"⟩
def y_M_putValue : MethodName := ⟨R_M, "putValue", "(I)V"⟩
def y_M_putText : MethodName := ⟨R_M, "putText", "(I)V"⟩
def y_M_putHex : MethodName := ⟨R_M, "putHex", "(I)V"⟩
def y_M_putWord : MethodName := ⟨R_M, "putWord", "(J)V"⟩
def y_M_putNumber : MethodName := ⟨R_M, "putNumber", "(J)V"⟩
def y_M_output : MethodName := ⟨R_M, "output", "(I)I"⟩
def y_JY_arraycopy : MethodName := ⟨R_JY, "arraycopy", "(Ljava/lang/Object;ILjava/lang/Object;II)V"⟩
def y_J_B_clone : MethodName := ⟨R_J_B, "clone", "()Ljava/lang/Object;"⟩
def y_JO_clone : MethodName := ⟨R_JO, "clone", "()Ljava/lang/Object;"⟩
theorem k_0 : (Jvm.Cond.initialized "SchemaRecordsLaw") ∈ lw_tbl := List.mem_append_right _ (List.mem_of_getElem? (i := 0) (by decide +kernel))
theorem k_1 : (Jvm.Cond.initialized "SchemaRecords") ∈ lw_tbl := List.mem_append_right _ (List.mem_of_getElem? (i := 1) (by decide +kernel))
theorem k_2 : (Jvm.Cond.initialized "SchemaRecords$Tape") ∈ lw_tbl := List.mem_append_right _ (List.mem_of_getElem? (i := 2) (by decide +kernel))
theorem k_3 : (Jvm.Cond.initialized "SchemaRecords$ByteRow") ∈ lw_tbl := List.mem_append_right _ (List.mem_of_getElem? (i := 3) (by decide +kernel))
theorem k_4 : (Jvm.Cond.initialized "SchemaRecords$Schema") ∈ lw_tbl := List.mem_append_right _ (List.mem_of_getElem? (i := 4) (by decide +kernel))
theorem k_5 : (Jvm.Cond.initialized "SchemaRecords$NodeRow") ∈ lw_tbl := List.mem_append_right _ (List.mem_of_getElem? (i := 5) (by decide +kernel))
theorem k_6 : (Jvm.Cond.initialized "SchemaRecords$Node") ∈ lw_tbl := List.mem_append_right _ (List.mem_of_getElem? (i := 6) (by decide +kernel))
theorem k_7 : (Jvm.Cond.initialized "SchemaRecordsModel") ∈ lw_tbl := List.mem_append_right _ (List.mem_of_getElem? (i := 7) (by decide +kernel))
theorem k_8 : (Jvm.Cond.initialized "SchemaRecords$Scanner") ∈ lw_tbl := List.mem_append_right _ (List.mem_of_getElem? (i := 8) (by decide +kernel))
theorem k_9 : (Jvm.Cond.initialized "SchemaRecords$SchemaReader") ∈ lw_tbl := List.mem_append_right _ (List.mem_of_getElem? (i := 9) (by decide +kernel))
theorem k_10 : (Jvm.Cond.initialized "java/lang/String") ∈ lw_tbl := List.mem_append_right _ (List.mem_of_getElem? (i := 10) (by decide +kernel))
theorem k_11 : (Jvm.Cond.initialized "java/lang/StringLatin1") ∈ lw_tbl := List.mem_append_right _ (List.mem_of_getElem? (i := 11) (by decide +kernel))
theorem k_12 : (Jvm.Cond.initialized "jdk/internal/util/Preconditions") ∈ lw_tbl := List.mem_append_right _ (List.mem_of_getElem? (i := 12) (by decide +kernel))
theorem k_13 : (Jvm.Cond.initialized "java/lang/StringUTF16") ∈ lw_tbl := List.mem_append_right _ (List.mem_of_getElem? (i := 13) (by decide +kernel))
theorem k_14 : (Jvm.Cond.initialized "java/util/Arrays") ∈ lw_tbl := List.mem_append_right _ (List.mem_of_getElem? (i := 14) (by decide +kernel))
theorem k_15 : (Jvm.Cond.initialized "java/lang/Math") ∈ lw_tbl := List.mem_append_right _ (List.mem_of_getElem? (i := 15) (by decide +kernel))
theorem k_16 : (Jvm.Cond.initialized "java/lang/System") ∈ lw_tbl := List.mem_append_right _ (List.mem_of_getElem? (i := 16) (by decide +kernel))
theorem k_17 : (Jvm.Cond.initialized "SchemaRecords$Field") ∈ lw_tbl := List.mem_append_right _ (List.mem_of_getElem? (i := 17) (by decide +kernel))
theorem k_18 : (Jvm.Cond.initialized "SchemaRecords$RecordReader") ∈ lw_tbl := List.mem_append_right _ (List.mem_of_getElem? (i := 18) (by decide +kernel))
theorem k_19 : (Jvm.Cond.initialized "SchemaRecords$RecordWriter") ∈ lw_tbl := List.mem_append_right _ (List.mem_of_getElem? (i := 19) (by decide +kernel))
theorem k_20 : (Jvm.Cond.classLink "SchemaRecordsLaw" (7 : Nat) "SchemaRecords") ∈ lw_tbl := List.mem_append_right _ (List.mem_of_getElem? (i := 20) (by decide +kernel))
theorem k_21 : (Jvm.Cond.instantiable "SchemaRecords" (5 : Nat)) ∈ lw_tbl := List.mem_append_right _ (List.mem_of_getElem? (i := 21) (by decide +kernel))
theorem k_22 : (Jvm.Cond.methodLink "SchemaRecordsLaw" (9 : Nat) y_X_init) ∈ lw_tbl := List.mem_append_right _ (List.mem_of_getElem? (i := 22) (by decide +kernel))
theorem k_23 : (Jvm.Cond.instanceMethod y_X_init) ∈ lw_tbl := List.mem_append_right _ (List.mem_of_getElem? (i := 23) (by decide +kernel))
theorem k_24 : (Jvm.Cond.code y_X_init prog_1_method_1_code (1 : Nat) (Option.none : Option Jvm.ClassFile.FieldType)) ∈ lw_tbl := List.mem_append_right _ (List.mem_of_getElem? (i := 24) (by decide +kernel))
theorem k_25 : (Jvm.Cond.methodLink "SchemaRecords" (1 : Nat) y_JO_init) ∈ lw_tbl := List.mem_append_right _ (List.mem_of_getElem? (i := 25) (by decide +kernel))
theorem k_26 : (Jvm.Cond.instanceMethod y_JO_init) ∈ lw_tbl := List.mem_append_right _ (List.mem_of_getElem? (i := 26) (by decide +kernel))
theorem k_27 : (Jvm.Cond.code y_JO_init object_method_1_code (1 : Nat) (Option.none : Option Jvm.ClassFile.FieldType)) ∈ lw_tbl := List.mem_append_right _ (List.mem_of_getElem? (i := 27) (by decide +kernel))
theorem k_28 : (Jvm.Cond.classLink "SchemaRecords" (7 : Nat) "SchemaRecords$Tape") ∈ lw_tbl := List.mem_append_right _ (List.mem_of_getElem? (i := 28) (by decide +kernel))
theorem k_29 : (Jvm.Cond.instantiable "SchemaRecords$Tape" (2 : Nat)) ∈ lw_tbl := List.mem_append_right _ (List.mem_of_getElem? (i := 29) (by decide +kernel))
theorem k_30 : (Jvm.Cond.methodLinkNest "SchemaRecords" (9 : Nat) y_Tape_init "SchemaRecords") ∈ lw_tbl := List.mem_append_right _ (List.mem_of_getElem? (i := 30) (by decide +kernel))
theorem k_31 : (Jvm.Cond.instanceMethod y_Tape_init) ∈ lw_tbl := List.mem_append_right _ (List.mem_of_getElem? (i := 31) (by decide +kernel))
theorem k_32 : (Jvm.Cond.code y_Tape_init prog_11_method_1_code (1 : Nat) (Option.none : Option Jvm.ClassFile.FieldType)) ∈ lw_tbl := List.mem_append_right _ (List.mem_of_getElem? (i := 32) (by decide +kernel))
theorem k_33 : (Jvm.Cond.methodLink "SchemaRecords$Tape" (3 : Nat) y_JO_init) ∈ lw_tbl := List.mem_append_right _ (List.mem_of_getElem? (i := 33) (by decide +kernel))
theorem k_34 : (Jvm.Cond.fieldLink "SchemaRecords$Tape" (9 : Nat) "SchemaRecords$Tape" "bytes" "[B") ∈ lw_tbl := List.mem_append_right _ (List.mem_of_getElem? (i := 34) (by decide +kernel))
theorem k_35 : (Jvm.Cond.fieldLink "SchemaRecords$Tape" (15 : Nat) "SchemaRecords$Tape" "size" "I") ∈ lw_tbl := List.mem_append_right _ (List.mem_of_getElem? (i := 35) (by decide +kernel))
theorem k_36 : (Jvm.Cond.laysFinal "SchemaRecords$Tape" "SchemaRecords$Tape" "bytes" "[B") ∈ lw_tbl := List.mem_append_right _ (List.mem_of_getElem? (i := 36) (by decide +kernel))
theorem k_37 : (Jvm.Cond.soleField "SchemaRecords$Tape" "bytes") ∈ lw_tbl := List.mem_append_right _ (List.mem_of_getElem? (i := 37) (by decide +kernel))
theorem k_38 : (Jvm.Cond.lays "SchemaRecords$Tape" "SchemaRecords$Tape" "size" "I") ∈ lw_tbl := List.mem_append_right _ (List.mem_of_getElem? (i := 38) (by decide +kernel))
theorem k_39 : (Jvm.Cond.soleField "SchemaRecords$Tape" "size") ∈ lw_tbl := List.mem_append_right _ (List.mem_of_getElem? (i := 39) (by decide +kernel))
theorem k_40 : (Jvm.Cond.superclass "SchemaRecords$Tape" "java/lang/Object") ∈ lw_tbl := List.mem_append_right _ (List.mem_of_getElem? (i := 40) (by decide +kernel))
theorem k_41 : (Jvm.Cond.arrayClass Jvm.ClassFile.FieldType.byte) ∈ lw_tbl := List.mem_append_right _ (List.mem_of_getElem? (i := 41) (by decide +kernel))
theorem k_42 : (Jvm.Cond.classLink "SchemaRecords" (16 : Nat) "SchemaRecords$ByteRow") ∈ lw_tbl := List.mem_append_right _ (List.mem_of_getElem? (i := 42) (by decide +kernel))
theorem k_43 : (Jvm.Cond.instantiable "SchemaRecords$ByteRow" (2 : Nat)) ∈ lw_tbl := List.mem_append_right _ (List.mem_of_getElem? (i := 43) (by decide +kernel))
theorem k_44 : (Jvm.Cond.methodLinkNest "SchemaRecords" (18 : Nat) y_ByteRow_init "SchemaRecords") ∈ lw_tbl := List.mem_append_right _ (List.mem_of_getElem? (i := 44) (by decide +kernel))
theorem k_45 : (Jvm.Cond.instanceMethod y_ByteRow_init) ∈ lw_tbl := List.mem_append_right _ (List.mem_of_getElem? (i := 45) (by decide +kernel))
theorem k_46 : (Jvm.Cond.code y_ByteRow_init prog_2_method_1_code (1 : Nat) (Option.none : Option Jvm.ClassFile.FieldType)) ∈ lw_tbl := List.mem_append_right _ (List.mem_of_getElem? (i := 46) (by decide +kernel))
theorem k_47 : (Jvm.Cond.methodLink "SchemaRecords$ByteRow" (3 : Nat) y_JO_init) ∈ lw_tbl := List.mem_append_right _ (List.mem_of_getElem? (i := 47) (by decide +kernel))
theorem k_48 : (Jvm.Cond.fieldLink "SchemaRecords$ByteRow" (9 : Nat) "SchemaRecords$ByteRow" "bytes" "[B") ∈ lw_tbl := List.mem_append_right _ (List.mem_of_getElem? (i := 48) (by decide +kernel))
theorem k_49 : (Jvm.Cond.fieldLink "SchemaRecords$ByteRow" (15 : Nat) "SchemaRecords$ByteRow" "size" "I") ∈ lw_tbl := List.mem_append_right _ (List.mem_of_getElem? (i := 49) (by decide +kernel))
theorem k_50 : (Jvm.Cond.fieldLinkNest "SchemaRecords" (170 : Nat) "SchemaRecords$ByteRow" "size" "I" "SchemaRecords") ∈ lw_tbl := List.mem_append_right _ (List.mem_of_getElem? (i := 50) (by decide +kernel))
theorem k_51 : (Jvm.Cond.lays "SchemaRecords$ByteRow" "SchemaRecords$ByteRow" "bytes" "[B") ∈ lw_tbl := List.mem_append_right _ (List.mem_of_getElem? (i := 51) (by decide +kernel))
theorem k_52 : (Jvm.Cond.soleField "SchemaRecords$ByteRow" "bytes") ∈ lw_tbl := List.mem_append_right _ (List.mem_of_getElem? (i := 52) (by decide +kernel))
theorem k_53 : (Jvm.Cond.lays "SchemaRecords$ByteRow" "SchemaRecords$ByteRow" "size" "I") ∈ lw_tbl := List.mem_append_right _ (List.mem_of_getElem? (i := 53) (by decide +kernel))
theorem k_54 : (Jvm.Cond.soleField "SchemaRecords$ByteRow" "size") ∈ lw_tbl := List.mem_append_right _ (List.mem_of_getElem? (i := 54) (by decide +kernel))
theorem k_55 : (Jvm.Cond.superclass "SchemaRecords$ByteRow" "java/lang/Object") ∈ lw_tbl := List.mem_append_right _ (List.mem_of_getElem? (i := 55) (by decide +kernel))
theorem k_56 : (Jvm.Cond.classLink "SchemaRecords" (23 : Nat) "SchemaRecords$Schema") ∈ lw_tbl := List.mem_append_right _ (List.mem_of_getElem? (i := 56) (by decide +kernel))
theorem k_57 : (Jvm.Cond.instantiable "SchemaRecords$Schema" (5 : Nat)) ∈ lw_tbl := List.mem_append_right _ (List.mem_of_getElem? (i := 57) (by decide +kernel))
theorem k_58 : (Jvm.Cond.methodLinkNest "SchemaRecords" (25 : Nat) y_Schema_init "SchemaRecords") ∈ lw_tbl := List.mem_append_right _ (List.mem_of_getElem? (i := 58) (by decide +kernel))
theorem k_59 : (Jvm.Cond.instanceMethod y_Schema_init) ∈ lw_tbl := List.mem_append_right _ (List.mem_of_getElem? (i := 59) (by decide +kernel))
theorem k_60 : (Jvm.Cond.code y_Schema_init prog_9_method_1_code (1 : Nat) (Option.none : Option Jvm.ClassFile.FieldType)) ∈ lw_tbl := List.mem_append_right _ (List.mem_of_getElem? (i := 60) (by decide +kernel))
theorem k_61 : (Jvm.Cond.methodLink "SchemaRecords$Schema" (3 : Nat) y_JO_init) ∈ lw_tbl := List.mem_append_right _ (List.mem_of_getElem? (i := 61) (by decide +kernel))
theorem k_62 : (Jvm.Cond.classLink "SchemaRecords$Schema" (9 : Nat) "SchemaRecords$Field") ∈ lw_tbl := List.mem_append_right _ (List.mem_of_getElem? (i := 62) (by decide +kernel))
theorem k_63 : (Jvm.Cond.arrayOver (Jvm.ClassFile.FieldType.object "SchemaRecords$Field")) ∈ lw_tbl := List.mem_append_right _ (List.mem_of_getElem? (i := 63) (by decide +kernel))
theorem k_64 : (Jvm.Cond.fieldLink "SchemaRecords$Schema" (11 : Nat) "SchemaRecords$Schema" "fields" "[LSchemaRecords$Field;") ∈ lw_tbl := List.mem_append_right _ (List.mem_of_getElem? (i := 64) (by decide +kernel))
theorem k_65 : (Jvm.Cond.fieldLink "SchemaRecords$Schema" (17 : Nat) "SchemaRecords$Schema" "columns" "[I") ∈ lw_tbl := List.mem_append_right _ (List.mem_of_getElem? (i := 65) (by decide +kernel))
theorem k_66 : (Jvm.Cond.fieldLink "SchemaRecords$Schema" (21 : Nat) "SchemaRecords$Schema" "size" "I") ∈ lw_tbl := List.mem_append_right _ (List.mem_of_getElem? (i := 66) (by decide +kernel))
theorem k_67 : (Jvm.Cond.fieldLinkNest "SchemaRecords" (69 : Nat) "SchemaRecords$Schema" "size" "I" "SchemaRecords") ∈ lw_tbl := List.mem_append_right _ (List.mem_of_getElem? (i := 67) (by decide +kernel))
theorem k_68 : (Jvm.Cond.fieldLink "SchemaRecords$Schema" (25 : Nat) "SchemaRecords$Schema" "columnCount" "I") ∈ lw_tbl := List.mem_append_right _ (List.mem_of_getElem? (i := 68) (by decide +kernel))
theorem k_69 : (Jvm.Cond.fieldLinkNest "SchemaRecords" (72 : Nat) "SchemaRecords$Schema" "columnCount" "I" "SchemaRecords") ∈ lw_tbl := List.mem_append_right _ (List.mem_of_getElem? (i := 69) (by decide +kernel))
theorem k_70 : (Jvm.Cond.fieldLink "SchemaRecords$Schema" (64 : Nat) "SchemaRecords$Schema" "requiredAtTop" "I") ∈ lw_tbl := List.mem_append_right _ (List.mem_of_getElem? (i := 70) (by decide +kernel))
theorem k_71 : (Jvm.Cond.laysFinal "SchemaRecords$Schema" "SchemaRecords$Schema" "fields" "[LSchemaRecords$Field;") ∈ lw_tbl := List.mem_append_right _ (List.mem_of_getElem? (i := 71) (by decide +kernel))
theorem k_72 : (Jvm.Cond.soleField "SchemaRecords$Schema" "fields") ∈ lw_tbl := List.mem_append_right _ (List.mem_of_getElem? (i := 72) (by decide +kernel))
theorem k_73 : (Jvm.Cond.laysFinal "SchemaRecords$Schema" "SchemaRecords$Schema" "columns" "[I") ∈ lw_tbl := List.mem_append_right _ (List.mem_of_getElem? (i := 73) (by decide +kernel))
theorem k_74 : (Jvm.Cond.soleField "SchemaRecords$Schema" "columns") ∈ lw_tbl := List.mem_append_right _ (List.mem_of_getElem? (i := 74) (by decide +kernel))
theorem k_75 : (Jvm.Cond.lays "SchemaRecords$Schema" "SchemaRecords$Schema" "size" "I") ∈ lw_tbl := List.mem_append_right _ (List.mem_of_getElem? (i := 75) (by decide +kernel))
theorem k_76 : (Jvm.Cond.soleField "SchemaRecords$Schema" "size") ∈ lw_tbl := List.mem_append_right _ (List.mem_of_getElem? (i := 76) (by decide +kernel))
theorem k_77 : (Jvm.Cond.lays "SchemaRecords$Schema" "SchemaRecords$Schema" "columnCount" "I") ∈ lw_tbl := List.mem_append_right _ (List.mem_of_getElem? (i := 77) (by decide +kernel))
theorem k_78 : (Jvm.Cond.soleField "SchemaRecords$Schema" "columnCount") ∈ lw_tbl := List.mem_append_right _ (List.mem_of_getElem? (i := 78) (by decide +kernel))
theorem k_79 : (Jvm.Cond.lays "SchemaRecords$Schema" "SchemaRecords$Schema" "requiredAtTop" "I") ∈ lw_tbl := List.mem_append_right _ (List.mem_of_getElem? (i := 79) (by decide +kernel))
theorem k_80 : (Jvm.Cond.soleField "SchemaRecords$Schema" "requiredAtTop") ∈ lw_tbl := List.mem_append_right _ (List.mem_of_getElem? (i := 80) (by decide +kernel))
theorem k_81 : (Jvm.Cond.superclass "SchemaRecords$Schema" "java/lang/Object") ∈ lw_tbl := List.mem_append_right _ (List.mem_of_getElem? (i := 81) (by decide +kernel))
theorem k_82 : (Jvm.Cond.arrayClass Jvm.ClassFile.FieldType.int) ∈ lw_tbl := List.mem_append_right _ (List.mem_of_getElem? (i := 82) (by decide +kernel))
theorem k_83 : (Jvm.Cond.classLink "SchemaRecords" (30 : Nat) "SchemaRecords$NodeRow") ∈ lw_tbl := List.mem_append_right _ (List.mem_of_getElem? (i := 83) (by decide +kernel))
theorem k_84 : (Jvm.Cond.instantiable "SchemaRecords$NodeRow" (3 : Nat)) ∈ lw_tbl := List.mem_append_right _ (List.mem_of_getElem? (i := 84) (by decide +kernel))
theorem k_85 : (Jvm.Cond.methodLink "SchemaRecords" (32 : Nat) y_NodeRow_init) ∈ lw_tbl := List.mem_append_right _ (List.mem_of_getElem? (i := 85) (by decide +kernel))
theorem k_86 : (Jvm.Cond.instanceMethod y_NodeRow_init) ∈ lw_tbl := List.mem_append_right _ (List.mem_of_getElem? (i := 86) (by decide +kernel))
theorem k_87 : (Jvm.Cond.code y_NodeRow_init prog_5_method_1_code (1 : Nat) (Option.none : Option Jvm.ClassFile.FieldType)) ∈ lw_tbl := List.mem_append_right _ (List.mem_of_getElem? (i := 87) (by decide +kernel))
theorem k_88 : (Jvm.Cond.methodLink "SchemaRecords$NodeRow" (3 : Nat) y_JO_init) ∈ lw_tbl := List.mem_append_right _ (List.mem_of_getElem? (i := 88) (by decide +kernel))
theorem k_89 : (Jvm.Cond.classLink "SchemaRecords$NodeRow" (9 : Nat) "SchemaRecords$Node") ∈ lw_tbl := List.mem_append_right _ (List.mem_of_getElem? (i := 89) (by decide +kernel))
theorem k_90 : (Jvm.Cond.arrayOver (Jvm.ClassFile.FieldType.object "SchemaRecords$Node")) ∈ lw_tbl := List.mem_append_right _ (List.mem_of_getElem? (i := 90) (by decide +kernel))
theorem k_91 : (Jvm.Cond.methodLink "SchemaRecords$NodeRow" (17 : Nat) y_NodeRow_clear) ∈ lw_tbl := List.mem_append_right _ (List.mem_of_getElem? (i := 91) (by decide +kernel))
theorem k_92 : (Jvm.Cond.instanceMethod y_NodeRow_clear) ∈ lw_tbl := List.mem_append_right _ (List.mem_of_getElem? (i := 92) (by decide +kernel))
theorem k_93 : (Jvm.Cond.selects "SchemaRecords$NodeRow" y_NodeRow_clear y_NodeRow_clear) ∈ lw_tbl := List.mem_append_right _ (List.mem_of_getElem? (i := 93) (by decide +kernel))
theorem k_94 : (Jvm.Cond.code y_NodeRow_clear prog_5_method_2_code (1 : Nat) (Option.none : Option Jvm.ClassFile.FieldType)) ∈ lw_tbl := List.mem_append_right _ (List.mem_of_getElem? (i := 94) (by decide +kernel))
theorem k_95 : (Jvm.Cond.instantiable "SchemaRecords$Node" (7 : Nat)) ∈ lw_tbl := List.mem_append_right _ (List.mem_of_getElem? (i := 95) (by decide +kernel))
theorem k_96 : (Jvm.Cond.fieldLinkNest "SchemaRecords$NodeRow" (20 : Nat) "SchemaRecords" "NO_BYTES" "[B" "SchemaRecords") ∈ lw_tbl := List.mem_append_right _ (List.mem_of_getElem? (i := 96) (by decide +kernel))
theorem k_97 : (Jvm.Cond.laysStatic "SchemaRecords" "NO_BYTES" "[B") ∈ lw_tbl := List.mem_append_right _ (List.mem_of_getElem? (i := 97) (by decide +kernel))
theorem k_98 : (Jvm.Cond.methodLink "SchemaRecords$NodeRow" (24 : Nat) y_Node_init) ∈ lw_tbl := List.mem_append_right _ (List.mem_of_getElem? (i := 98) (by decide +kernel))
theorem k_99 : (Jvm.Cond.instanceMethod y_Node_init) ∈ lw_tbl := List.mem_append_right _ (List.mem_of_getElem? (i := 99) (by decide +kernel))
theorem k_100 : (Jvm.Cond.code y_Node_init prog_4_method_1_code (6 : Nat) (Option.none : Option Jvm.ClassFile.FieldType)) ∈ lw_tbl := List.mem_append_right _ (List.mem_of_getElem? (i := 100) (by decide +kernel))
theorem k_101 : (Jvm.Cond.methodLink "SchemaRecords$Node" (3 : Nat) y_JO_init) ∈ lw_tbl := List.mem_append_right _ (List.mem_of_getElem? (i := 101) (by decide +kernel))
theorem k_102 : (Jvm.Cond.fieldLink "SchemaRecords$Node" (9 : Nat) "SchemaRecords$Node" "field" "I") ∈ lw_tbl := List.mem_append_right _ (List.mem_of_getElem? (i := 102) (by decide +kernel))
theorem k_103 : (Jvm.Cond.fieldLinkNest "SchemaRecords$RecordWriter" (41 : Nat) "SchemaRecords$Node" "field" "I" "SchemaRecords") ∈ lw_tbl := List.mem_append_right _ (List.mem_of_getElem? (i := 103) (by decide +kernel))
theorem k_104 : (Jvm.Cond.fieldLinkNest "SchemaRecords$NodeRow" (55 : Nat) "SchemaRecords$Node" "field" "I" "SchemaRecords") ∈ lw_tbl := List.mem_append_right _ (List.mem_of_getElem? (i := 104) (by decide +kernel))
theorem k_105 : (Jvm.Cond.fieldLink "SchemaRecords$Node" (15 : Nat) "SchemaRecords$Node" "parent" "I") ∈ lw_tbl := List.mem_append_right _ (List.mem_of_getElem? (i := 105) (by decide +kernel))
theorem k_106 : (Jvm.Cond.fieldLinkNest "SchemaRecords$NodeRow" (65 : Nat) "SchemaRecords$Node" "parent" "I" "SchemaRecords") ∈ lw_tbl := List.mem_append_right _ (List.mem_of_getElem? (i := 106) (by decide +kernel))
theorem k_107 : (Jvm.Cond.fieldLink "SchemaRecords$Node" (18 : Nat) "SchemaRecords$Node" "number" "J") ∈ lw_tbl := List.mem_append_right _ (List.mem_of_getElem? (i := 107) (by decide +kernel))
theorem k_108 : (Jvm.Cond.fieldLinkNest "SchemaRecords$RecordWriter" (91 : Nat) "SchemaRecords$Node" "number" "J" "SchemaRecords") ∈ lw_tbl := List.mem_append_right _ (List.mem_of_getElem? (i := 108) (by decide +kernel))
theorem k_109 : (Jvm.Cond.fieldLinkNest "SchemaRecords" (146 : Nat) "SchemaRecords$Node" "number" "J" "SchemaRecords") ∈ lw_tbl := List.mem_append_right _ (List.mem_of_getElem? (i := 109) (by decide +kernel))
theorem k_110 : (Jvm.Cond.fieldLink "SchemaRecords$Node" (22 : Nat) "SchemaRecords$Node" "text" "[B") ∈ lw_tbl := List.mem_append_right _ (List.mem_of_getElem? (i := 110) (by decide +kernel))
theorem k_111 : (Jvm.Cond.fieldLinkNest "SchemaRecords$RecordWriter" (85 : Nat) "SchemaRecords$Node" "text" "[B" "SchemaRecords") ∈ lw_tbl := List.mem_append_right _ (List.mem_of_getElem? (i := 111) (by decide +kernel))
theorem k_112 : (Jvm.Cond.fieldLinkNest "SchemaRecords" (150 : Nat) "SchemaRecords$Node" "text" "[B" "SchemaRecords") ∈ lw_tbl := List.mem_append_right _ (List.mem_of_getElem? (i := 112) (by decide +kernel))
theorem k_113 : (Jvm.Cond.fieldLink "SchemaRecords$Node" (29 : Nat) "SchemaRecords$Node" "children" "I") ∈ lw_tbl := List.mem_append_right _ (List.mem_of_getElem? (i := 113) (by decide +kernel))
theorem k_114 : (Jvm.Cond.fieldLinkNest "SchemaRecords$RecordWriter" (35 : Nat) "SchemaRecords$Node" "children" "I" "SchemaRecords") ∈ lw_tbl := List.mem_append_right _ (List.mem_of_getElem? (i := 114) (by decide +kernel))
theorem k_115 : (Jvm.Cond.fieldLinkNest "SchemaRecords$NodeRow" (38 : Nat) "SchemaRecords$Node" "children" "I" "SchemaRecords") ∈ lw_tbl := List.mem_append_right _ (List.mem_of_getElem? (i := 115) (by decide +kernel))
theorem k_116 : (Jvm.Cond.fieldLink "SchemaRecords$Node" (26 : Nat) "SchemaRecords$Node" "latestField" "I") ∈ lw_tbl := List.mem_append_right _ (List.mem_of_getElem? (i := 116) (by decide +kernel))
theorem k_117 : (Jvm.Cond.fieldLinkNest "SchemaRecords$NodeRow" (46 : Nat) "SchemaRecords$Node" "latestField" "I" "SchemaRecords") ∈ lw_tbl := List.mem_append_right _ (List.mem_of_getElem? (i := 117) (by decide +kernel))
theorem k_118 : (Jvm.Cond.fieldLinkNest "SchemaRecords$NodeRow" (52 : Nat) "SchemaRecords$Node" "requiredThere" "I" "SchemaRecords") ∈ lw_tbl := List.mem_append_right _ (List.mem_of_getElem? (i := 118) (by decide +kernel))
theorem k_119 : (Jvm.Cond.laysFinal "SchemaRecords$Node" "SchemaRecords$Node" "field" "I") ∈ lw_tbl := List.mem_append_right _ (List.mem_of_getElem? (i := 119) (by decide +kernel))
theorem k_120 : (Jvm.Cond.soleField "SchemaRecords$Node" "field") ∈ lw_tbl := List.mem_append_right _ (List.mem_of_getElem? (i := 120) (by decide +kernel))
theorem k_121 : (Jvm.Cond.laysFinal "SchemaRecords$Node" "SchemaRecords$Node" "parent" "I") ∈ lw_tbl := List.mem_append_right _ (List.mem_of_getElem? (i := 121) (by decide +kernel))
theorem k_122 : (Jvm.Cond.soleField "SchemaRecords$Node" "parent") ∈ lw_tbl := List.mem_append_right _ (List.mem_of_getElem? (i := 122) (by decide +kernel))
theorem k_123 : (Jvm.Cond.laysFinal "SchemaRecords$Node" "SchemaRecords$Node" "number" "J") ∈ lw_tbl := List.mem_append_right _ (List.mem_of_getElem? (i := 123) (by decide +kernel))
theorem k_124 : (Jvm.Cond.soleField "SchemaRecords$Node" "number") ∈ lw_tbl := List.mem_append_right _ (List.mem_of_getElem? (i := 124) (by decide +kernel))
theorem k_125 : (Jvm.Cond.laysFinal "SchemaRecords$Node" "SchemaRecords$Node" "text" "[B") ∈ lw_tbl := List.mem_append_right _ (List.mem_of_getElem? (i := 125) (by decide +kernel))
theorem k_126 : (Jvm.Cond.soleField "SchemaRecords$Node" "text") ∈ lw_tbl := List.mem_append_right _ (List.mem_of_getElem? (i := 126) (by decide +kernel))
theorem k_127 : (Jvm.Cond.lays "SchemaRecords$Node" "SchemaRecords$Node" "children" "I") ∈ lw_tbl := List.mem_append_right _ (List.mem_of_getElem? (i := 127) (by decide +kernel))
theorem k_128 : (Jvm.Cond.soleField "SchemaRecords$Node" "children") ∈ lw_tbl := List.mem_append_right _ (List.mem_of_getElem? (i := 128) (by decide +kernel))
theorem k_129 : (Jvm.Cond.lays "SchemaRecords$Node" "SchemaRecords$Node" "latestField" "I") ∈ lw_tbl := List.mem_append_right _ (List.mem_of_getElem? (i := 129) (by decide +kernel))
theorem k_130 : (Jvm.Cond.soleField "SchemaRecords$Node" "latestField") ∈ lw_tbl := List.mem_append_right _ (List.mem_of_getElem? (i := 130) (by decide +kernel))
theorem k_131 : (Jvm.Cond.lays "SchemaRecords$Node" "SchemaRecords$Node" "requiredThere" "I") ∈ lw_tbl := List.mem_append_right _ (List.mem_of_getElem? (i := 131) (by decide +kernel))
theorem k_132 : (Jvm.Cond.soleField "SchemaRecords$Node" "requiredThere") ∈ lw_tbl := List.mem_append_right _ (List.mem_of_getElem? (i := 132) (by decide +kernel))
theorem k_133 : (Jvm.Cond.superclass "SchemaRecords$Node" "java/lang/Object") ∈ lw_tbl := List.mem_append_right _ (List.mem_of_getElem? (i := 133) (by decide +kernel))
theorem k_134 : (Jvm.Cond.fieldLink "SchemaRecords$NodeRow" (11 : Nat) "SchemaRecords$NodeRow" "row" "[LSchemaRecords$Node;") ∈ lw_tbl := List.mem_append_right _ (List.mem_of_getElem? (i := 134) (by decide +kernel))
theorem k_135 : (Jvm.Cond.fieldLink "SchemaRecords$NodeRow" (27 : Nat) "SchemaRecords$NodeRow" "size" "I") ∈ lw_tbl := List.mem_append_right _ (List.mem_of_getElem? (i := 135) (by decide +kernel))
theorem k_136 : (Jvm.Cond.fieldLinkNest "SchemaRecords$RecordReader" (117 : Nat) "SchemaRecords$NodeRow" "size" "I" "SchemaRecords") ∈ lw_tbl := List.mem_append_right _ (List.mem_of_getElem? (i := 136) (by decide +kernel))
theorem k_137 : (Jvm.Cond.fieldLinkNest "SchemaRecords" (138 : Nat) "SchemaRecords$NodeRow" "size" "I" "SchemaRecords") ∈ lw_tbl := List.mem_append_right _ (List.mem_of_getElem? (i := 137) (by decide +kernel))
theorem k_138 : (Jvm.Cond.fieldLink "SchemaRecords$NodeRow" (31 : Nat) "SchemaRecords$NodeRow" "textBytes" "I") ∈ lw_tbl := List.mem_append_right _ (List.mem_of_getElem? (i := 138) (by decide +kernel))
theorem k_139 : (Jvm.Cond.laysFinal "SchemaRecords$NodeRow" "SchemaRecords$NodeRow" "row" "[LSchemaRecords$Node;") ∈ lw_tbl := List.mem_append_right _ (List.mem_of_getElem? (i := 139) (by decide +kernel))
theorem k_140 : (Jvm.Cond.soleField "SchemaRecords$NodeRow" "row") ∈ lw_tbl := List.mem_append_right _ (List.mem_of_getElem? (i := 140) (by decide +kernel))
theorem k_141 : (Jvm.Cond.lays "SchemaRecords$NodeRow" "SchemaRecords$NodeRow" "size" "I") ∈ lw_tbl := List.mem_append_right _ (List.mem_of_getElem? (i := 141) (by decide +kernel))
theorem k_142 : (Jvm.Cond.soleField "SchemaRecords$NodeRow" "size") ∈ lw_tbl := List.mem_append_right _ (List.mem_of_getElem? (i := 142) (by decide +kernel))
theorem k_143 : (Jvm.Cond.lays "SchemaRecords$NodeRow" "SchemaRecords$NodeRow" "textBytes" "I") ∈ lw_tbl := List.mem_append_right _ (List.mem_of_getElem? (i := 143) (by decide +kernel))
theorem k_144 : (Jvm.Cond.soleField "SchemaRecords$NodeRow" "textBytes") ∈ lw_tbl := List.mem_append_right _ (List.mem_of_getElem? (i := 144) (by decide +kernel))
theorem k_145 : (Jvm.Cond.superclass "SchemaRecords$NodeRow" "java/lang/Object") ∈ lw_tbl := List.mem_append_right _ (List.mem_of_getElem? (i := 145) (by decide +kernel))
theorem k_146 : (Jvm.Cond.fieldLink "SchemaRecords" (10 : Nat) "SchemaRecords" "tape" "LSchemaRecords$Tape;") ∈ lw_tbl := List.mem_append_right _ (List.mem_of_getElem? (i := 146) (by decide +kernel))
theorem k_147 : (Jvm.Cond.fieldLink "SchemaRecords" (19 : Nat) "SchemaRecords" "written" "LSchemaRecords$ByteRow;") ∈ lw_tbl := List.mem_append_right _ (List.mem_of_getElem? (i := 147) (by decide +kernel))
theorem k_148 : (Jvm.Cond.fieldLink "SchemaRecords" (26 : Nat) "SchemaRecords" "known" "LSchemaRecords$Schema;") ∈ lw_tbl := List.mem_append_right _ (List.mem_of_getElem? (i := 148) (by decide +kernel))
theorem k_149 : (Jvm.Cond.fieldLink "SchemaRecords" (33 : Nat) "SchemaRecords" "present" "LSchemaRecords$NodeRow;") ∈ lw_tbl := List.mem_append_right _ (List.mem_of_getElem? (i := 149) (by decide +kernel))
theorem k_150 : (Jvm.Cond.fieldLink "SchemaRecords" (37 : Nat) "SchemaRecords" "spare" "LSchemaRecords$NodeRow;") ∈ lw_tbl := List.mem_append_right _ (List.mem_of_getElem? (i := 150) (by decide +kernel))
theorem k_151 : (Jvm.Cond.laysFinal "SchemaRecords" "SchemaRecords" "tape" "LSchemaRecords$Tape;") ∈ lw_tbl := List.mem_append_right _ (List.mem_of_getElem? (i := 151) (by decide +kernel))
theorem k_152 : (Jvm.Cond.soleField "SchemaRecords" "tape") ∈ lw_tbl := List.mem_append_right _ (List.mem_of_getElem? (i := 152) (by decide +kernel))
theorem k_153 : (Jvm.Cond.laysFinal "SchemaRecords" "SchemaRecords" "written" "LSchemaRecords$ByteRow;") ∈ lw_tbl := List.mem_append_right _ (List.mem_of_getElem? (i := 153) (by decide +kernel))
theorem k_154 : (Jvm.Cond.soleField "SchemaRecords" "written") ∈ lw_tbl := List.mem_append_right _ (List.mem_of_getElem? (i := 154) (by decide +kernel))
theorem k_155 : (Jvm.Cond.lays "SchemaRecords" "SchemaRecords" "known" "LSchemaRecords$Schema;") ∈ lw_tbl := List.mem_append_right _ (List.mem_of_getElem? (i := 155) (by decide +kernel))
theorem k_156 : (Jvm.Cond.soleField "SchemaRecords" "known") ∈ lw_tbl := List.mem_append_right _ (List.mem_of_getElem? (i := 156) (by decide +kernel))
theorem k_157 : (Jvm.Cond.lays "SchemaRecords" "SchemaRecords" "present" "LSchemaRecords$NodeRow;") ∈ lw_tbl := List.mem_append_right _ (List.mem_of_getElem? (i := 157) (by decide +kernel))
theorem k_158 : (Jvm.Cond.soleField "SchemaRecords" "present") ∈ lw_tbl := List.mem_append_right _ (List.mem_of_getElem? (i := 158) (by decide +kernel))
theorem k_159 : (Jvm.Cond.lays "SchemaRecords" "SchemaRecords" "spare" "LSchemaRecords$NodeRow;") ∈ lw_tbl := List.mem_append_right _ (List.mem_of_getElem? (i := 159) (by decide +kernel))
theorem k_160 : (Jvm.Cond.soleField "SchemaRecords" "spare") ∈ lw_tbl := List.mem_append_right _ (List.mem_of_getElem? (i := 160) (by decide +kernel))
theorem k_161 : (Jvm.Cond.superclass "SchemaRecords" "java/lang/Object") ∈ lw_tbl := List.mem_append_right _ (List.mem_of_getElem? (i := 161) (by decide +kernel))
theorem k_162 : (Jvm.Cond.methodLink "SchemaRecordsLaw" (13 : Nat) y_X_feed) ∈ lw_tbl := List.mem_append_right _ (List.mem_of_getElem? (i := 162) (by decide +kernel))
theorem k_163 : (Jvm.Cond.instanceMethod y_X_feed) ∈ lw_tbl := List.mem_append_right _ (List.mem_of_getElem? (i := 163) (by decide +kernel))
theorem k_164 : (Jvm.Cond.selects "SchemaRecords" y_X_feed y_X_feed) ∈ lw_tbl := List.mem_append_right _ (List.mem_of_getElem? (i := 164) (by decide +kernel))
theorem k_165 : (Jvm.Cond.code y_X_feed prog_1_method_2_code (6 : Nat) (Option.some Jvm.ClassFile.FieldType.boolean)) ∈ lw_tbl := List.mem_append_right _ (List.mem_of_getElem? (i := 165) (by decide +kernel))
theorem k_166 : (Jvm.Cond.methodLink "SchemaRecords" (40 : Nat) y_Tape_hasRoom) ∈ lw_tbl := List.mem_append_right _ (List.mem_of_getElem? (i := 166) (by decide +kernel))
theorem k_167 : (Jvm.Cond.instanceMethod y_Tape_hasRoom) ∈ lw_tbl := List.mem_append_right _ (List.mem_of_getElem? (i := 167) (by decide +kernel))
theorem k_168 : (Jvm.Cond.selects "SchemaRecords$Tape" y_Tape_hasRoom y_Tape_hasRoom) ∈ lw_tbl := List.mem_append_right _ (List.mem_of_getElem? (i := 168) (by decide +kernel))
theorem k_169 : (Jvm.Cond.code y_Tape_hasRoom prog_11_method_2_code (1 : Nat) (Option.some Jvm.ClassFile.FieldType.boolean)) ∈ lw_tbl := List.mem_append_right _ (List.mem_of_getElem? (i := 169) (by decide +kernel))
theorem k_170 : (Jvm.Cond.methodLink "SchemaRecords" (44 : Nat) y_Tape_putFour) ∈ lw_tbl := List.mem_append_right _ (List.mem_of_getElem? (i := 170) (by decide +kernel))
theorem k_171 : (Jvm.Cond.instanceMethod y_Tape_putFour) ∈ lw_tbl := List.mem_append_right _ (List.mem_of_getElem? (i := 171) (by decide +kernel))
theorem k_172 : (Jvm.Cond.selects "SchemaRecords$Tape" y_Tape_putFour y_Tape_putFour) ∈ lw_tbl := List.mem_append_right _ (List.mem_of_getElem? (i := 172) (by decide +kernel))
theorem k_173 : (Jvm.Cond.code y_Tape_putFour prog_11_method_3_code (3 : Nat) (Option.none : Option Jvm.ClassFile.FieldType)) ∈ lw_tbl := List.mem_append_right _ (List.mem_of_getElem? (i := 173) (by decide +kernel))
theorem k_174 : (Jvm.Cond.methodLink "SchemaRecordsLaw" (18 : Nat) y_X_schema) ∈ lw_tbl := List.mem_append_right _ (List.mem_of_getElem? (i := 174) (by decide +kernel))
theorem k_175 : (Jvm.Cond.instanceMethod y_X_schema) ∈ lw_tbl := List.mem_append_right _ (List.mem_of_getElem? (i := 175) (by decide +kernel))
theorem k_176 : (Jvm.Cond.selects "SchemaRecords" y_X_schema y_X_schema) ∈ lw_tbl := List.mem_append_right _ (List.mem_of_getElem? (i := 176) (by decide +kernel))
theorem k_177 : (Jvm.Cond.code y_X_schema prog_1_method_3_code (4 : Nat) (Option.some Jvm.ClassFile.FieldType.int)) ∈ lw_tbl := List.mem_append_right _ (List.mem_of_getElem? (i := 177) (by decide +kernel))
theorem k_178 : (Jvm.Cond.methodLink "SchemaRecords" (48 : Nat) y_Tape_cut) ∈ lw_tbl := List.mem_append_right _ (List.mem_of_getElem? (i := 178) (by decide +kernel))
theorem k_179 : (Jvm.Cond.instanceMethod y_Tape_cut) ∈ lw_tbl := List.mem_append_right _ (List.mem_of_getElem? (i := 179) (by decide +kernel))
theorem k_180 : (Jvm.Cond.selects "SchemaRecords$Tape" y_Tape_cut y_Tape_cut) ∈ lw_tbl := List.mem_append_right _ (List.mem_of_getElem? (i := 180) (by decide +kernel))
theorem k_181 : (Jvm.Cond.code y_Tape_cut prog_11_method_4_code (2 : Nat) (Option.some (Jvm.ClassFile.FieldType.object "SchemaRecords$Scanner"))) ∈ lw_tbl := List.mem_append_right _ (List.mem_of_getElem? (i := 181) (by decide +kernel))
theorem k_182 : (Jvm.Cond.classLink "SchemaRecords$Tape" (19 : Nat) "SchemaRecords$Scanner") ∈ lw_tbl := List.mem_append_right _ (List.mem_of_getElem? (i := 182) (by decide +kernel))
theorem k_183 : (Jvm.Cond.instantiable "SchemaRecords$Scanner" (6 : Nat)) ∈ lw_tbl := List.mem_append_right _ (List.mem_of_getElem? (i := 183) (by decide +kernel))
theorem k_184 : (Jvm.Cond.methodLink "SchemaRecords$Tape" (21 : Nat) y_Scanner_init) ∈ lw_tbl := List.mem_append_right _ (List.mem_of_getElem? (i := 184) (by decide +kernel))
theorem k_185 : (Jvm.Cond.instanceMethod y_Scanner_init) ∈ lw_tbl := List.mem_append_right _ (List.mem_of_getElem? (i := 185) (by decide +kernel))
theorem k_186 : (Jvm.Cond.code y_Scanner_init prog_8_method_1_code (3 : Nat) (Option.none : Option Jvm.ClassFile.FieldType)) ∈ lw_tbl := List.mem_append_right _ (List.mem_of_getElem? (i := 186) (by decide +kernel))
theorem k_187 : (Jvm.Cond.methodLink "SchemaRecords$Scanner" (3 : Nat) y_JO_init) ∈ lw_tbl := List.mem_append_right _ (List.mem_of_getElem? (i := 187) (by decide +kernel))
theorem k_188 : (Jvm.Cond.fieldLink "SchemaRecords$Scanner" (9 : Nat) "SchemaRecords$Scanner" "bytes" "[B") ∈ lw_tbl := List.mem_append_right _ (List.mem_of_getElem? (i := 188) (by decide +kernel))
theorem k_189 : (Jvm.Cond.fieldLink "SchemaRecords$Scanner" (15 : Nat) "SchemaRecords$Scanner" "size" "I") ∈ lw_tbl := List.mem_append_right _ (List.mem_of_getElem? (i := 189) (by decide +kernel))
theorem k_190 : (Jvm.Cond.fieldLinkNest "SchemaRecords$RecordReader" (169 : Nat) "SchemaRecords$Scanner" "size" "I" "SchemaRecords") ∈ lw_tbl := List.mem_append_right _ (List.mem_of_getElem? (i := 190) (by decide +kernel))
theorem k_191 : (Jvm.Cond.fieldLink "SchemaRecords$Scanner" (31 : Nat) "SchemaRecords$Scanner" "place" "I") ∈ lw_tbl := List.mem_append_right _ (List.mem_of_getElem? (i := 191) (by decide +kernel))
theorem k_192 : (Jvm.Cond.fieldLinkNest "SchemaRecords$RecordReader" (81 : Nat) "SchemaRecords$Scanner" "place" "I" "SchemaRecords") ∈ lw_tbl := List.mem_append_right _ (List.mem_of_getElem? (i := 192) (by decide +kernel))
theorem k_193 : (Jvm.Cond.fieldLink "SchemaRecords$Scanner" (19 : Nat) "SchemaRecords$Scanner" "fault" "I") ∈ lw_tbl := List.mem_append_right _ (List.mem_of_getElem? (i := 193) (by decide +kernel))
theorem k_194 : (Jvm.Cond.fieldLinkNest "SchemaRecords" (60 : Nat) "SchemaRecords$Scanner" "fault" "I" "SchemaRecords") ∈ lw_tbl := List.mem_append_right _ (List.mem_of_getElem? (i := 194) (by decide +kernel))
theorem k_195 : (Jvm.Cond.fieldLinkNest "SchemaRecords$SchemaReader" (49 : Nat) "SchemaRecords$Scanner" "wordStart" "I" "SchemaRecords") ∈ lw_tbl := List.mem_append_right _ (List.mem_of_getElem? (i := 195) (by decide +kernel))
theorem k_196 : (Jvm.Cond.fieldLink "SchemaRecords$Scanner" (42 : Nat) "SchemaRecords$Scanner" "wordStart" "I") ∈ lw_tbl := List.mem_append_right _ (List.mem_of_getElem? (i := 196) (by decide +kernel))
theorem k_197 : (Jvm.Cond.fieldLinkNest "SchemaRecords$Schema" (71 : Nat) "SchemaRecords$Scanner" "wordStart" "I" "SchemaRecords") ∈ lw_tbl := List.mem_append_right _ (List.mem_of_getElem? (i := 197) (by decide +kernel))
theorem k_198 : (Jvm.Cond.fieldLinkNest "SchemaRecords$SchemaReader" (53 : Nat) "SchemaRecords$Scanner" "wordEnd" "I" "SchemaRecords") ∈ lw_tbl := List.mem_append_right _ (List.mem_of_getElem? (i := 198) (by decide +kernel))
theorem k_199 : (Jvm.Cond.fieldLinkNest "SchemaRecords$Schema" (76 : Nat) "SchemaRecords$Scanner" "wordEnd" "I" "SchemaRecords") ∈ lw_tbl := List.mem_append_right _ (List.mem_of_getElem? (i := 199) (by decide +kernel))
theorem k_200 : (Jvm.Cond.fieldLink "SchemaRecords$Scanner" (58 : Nat) "SchemaRecords$Scanner" "wordEnd" "I") ∈ lw_tbl := List.mem_append_right _ (List.mem_of_getElem? (i := 200) (by decide +kernel))
theorem k_201 : (Jvm.Cond.laysFinal "SchemaRecords$Scanner" "SchemaRecords$Scanner" "bytes" "[B") ∈ lw_tbl := List.mem_append_right _ (List.mem_of_getElem? (i := 201) (by decide +kernel))
theorem k_202 : (Jvm.Cond.soleField "SchemaRecords$Scanner" "bytes") ∈ lw_tbl := List.mem_append_right _ (List.mem_of_getElem? (i := 202) (by decide +kernel))
theorem k_203 : (Jvm.Cond.laysFinal "SchemaRecords$Scanner" "SchemaRecords$Scanner" "size" "I") ∈ lw_tbl := List.mem_append_right _ (List.mem_of_getElem? (i := 203) (by decide +kernel))
theorem k_204 : (Jvm.Cond.soleField "SchemaRecords$Scanner" "size") ∈ lw_tbl := List.mem_append_right _ (List.mem_of_getElem? (i := 204) (by decide +kernel))
theorem k_205 : (Jvm.Cond.lays "SchemaRecords$Scanner" "SchemaRecords$Scanner" "place" "I") ∈ lw_tbl := List.mem_append_right _ (List.mem_of_getElem? (i := 205) (by decide +kernel))
theorem k_206 : (Jvm.Cond.soleField "SchemaRecords$Scanner" "place") ∈ lw_tbl := List.mem_append_right _ (List.mem_of_getElem? (i := 206) (by decide +kernel))
theorem k_207 : (Jvm.Cond.lays "SchemaRecords$Scanner" "SchemaRecords$Scanner" "fault" "I") ∈ lw_tbl := List.mem_append_right _ (List.mem_of_getElem? (i := 207) (by decide +kernel))
theorem k_208 : (Jvm.Cond.soleField "SchemaRecords$Scanner" "fault") ∈ lw_tbl := List.mem_append_right _ (List.mem_of_getElem? (i := 208) (by decide +kernel))
theorem k_209 : (Jvm.Cond.lays "SchemaRecords$Scanner" "SchemaRecords$Scanner" "wordStart" "I") ∈ lw_tbl := List.mem_append_right _ (List.mem_of_getElem? (i := 209) (by decide +kernel))
theorem k_210 : (Jvm.Cond.soleField "SchemaRecords$Scanner" "wordStart") ∈ lw_tbl := List.mem_append_right _ (List.mem_of_getElem? (i := 210) (by decide +kernel))
theorem k_211 : (Jvm.Cond.lays "SchemaRecords$Scanner" "SchemaRecords$Scanner" "wordEnd" "I") ∈ lw_tbl := List.mem_append_right _ (List.mem_of_getElem? (i := 211) (by decide +kernel))
theorem k_212 : (Jvm.Cond.soleField "SchemaRecords$Scanner" "wordEnd") ∈ lw_tbl := List.mem_append_right _ (List.mem_of_getElem? (i := 212) (by decide +kernel))
theorem k_213 : (Jvm.Cond.superclass "SchemaRecords$Scanner" "java/lang/Object") ∈ lw_tbl := List.mem_append_right _ (List.mem_of_getElem? (i := 213) (by decide +kernel))
theorem k_214 : (Jvm.Cond.classLink "SchemaRecords" (52 : Nat) "SchemaRecords$SchemaReader") ∈ lw_tbl := List.mem_append_right _ (List.mem_of_getElem? (i := 214) (by decide +kernel))
theorem k_215 : (Jvm.Cond.instantiable "SchemaRecords$SchemaReader" (2 : Nat)) ∈ lw_tbl := List.mem_append_right _ (List.mem_of_getElem? (i := 215) (by decide +kernel))
theorem k_216 : (Jvm.Cond.methodLink "SchemaRecords" (54 : Nat) y_SchemaReader_init) ∈ lw_tbl := List.mem_append_right _ (List.mem_of_getElem? (i := 216) (by decide +kernel))
theorem k_217 : (Jvm.Cond.instanceMethod y_SchemaReader_init) ∈ lw_tbl := List.mem_append_right _ (List.mem_of_getElem? (i := 217) (by decide +kernel))
theorem k_218 : (Jvm.Cond.code y_SchemaReader_init prog_10_method_1_code (3 : Nat) (Option.none : Option Jvm.ClassFile.FieldType)) ∈ lw_tbl := List.mem_append_right _ (List.mem_of_getElem? (i := 218) (by decide +kernel))
theorem k_219 : (Jvm.Cond.methodLink "SchemaRecords$SchemaReader" (3 : Nat) y_JO_init) ∈ lw_tbl := List.mem_append_right _ (List.mem_of_getElem? (i := 219) (by decide +kernel))
theorem k_220 : (Jvm.Cond.fieldLink "SchemaRecords$SchemaReader" (9 : Nat) "SchemaRecords$SchemaReader" "text" "LSchemaRecords$Scanner;") ∈ lw_tbl := List.mem_append_right _ (List.mem_of_getElem? (i := 220) (by decide +kernel))
theorem k_221 : (Jvm.Cond.fieldLink "SchemaRecords$SchemaReader" (15 : Nat) "SchemaRecords$SchemaReader" "schema" "LSchemaRecords$Schema;") ∈ lw_tbl := List.mem_append_right _ (List.mem_of_getElem? (i := 221) (by decide +kernel))
theorem k_222 : (Jvm.Cond.laysFinal "SchemaRecords$SchemaReader" "SchemaRecords$SchemaReader" "text" "LSchemaRecords$Scanner;") ∈ lw_tbl := List.mem_append_right _ (List.mem_of_getElem? (i := 222) (by decide +kernel))
theorem k_223 : (Jvm.Cond.soleField "SchemaRecords$SchemaReader" "text") ∈ lw_tbl := List.mem_append_right _ (List.mem_of_getElem? (i := 223) (by decide +kernel))
theorem k_224 : (Jvm.Cond.laysFinal "SchemaRecords$SchemaReader" "SchemaRecords$SchemaReader" "schema" "LSchemaRecords$Schema;") ∈ lw_tbl := List.mem_append_right _ (List.mem_of_getElem? (i := 224) (by decide +kernel))
theorem k_225 : (Jvm.Cond.soleField "SchemaRecords$SchemaReader" "schema") ∈ lw_tbl := List.mem_append_right _ (List.mem_of_getElem? (i := 225) (by decide +kernel))
theorem k_226 : (Jvm.Cond.superclass "SchemaRecords$SchemaReader" "java/lang/Object") ∈ lw_tbl := List.mem_append_right _ (List.mem_of_getElem? (i := 226) (by decide +kernel))
theorem k_227 : (Jvm.Cond.methodLink "SchemaRecords" (57 : Nat) y_SchemaReader_readSchema) ∈ lw_tbl := List.mem_append_right _ (List.mem_of_getElem? (i := 227) (by decide +kernel))
theorem k_228 : (Jvm.Cond.instanceMethod y_SchemaReader_readSchema) ∈ lw_tbl := List.mem_append_right _ (List.mem_of_getElem? (i := 228) (by decide +kernel))
theorem k_229 : (Jvm.Cond.selects "SchemaRecords$SchemaReader" y_SchemaReader_readSchema y_SchemaReader_readSchema) ∈ lw_tbl := List.mem_append_right _ (List.mem_of_getElem? (i := 229) (by decide +kernel))
theorem k_230 : (Jvm.Cond.code y_SchemaReader_readSchema prog_10_method_2_code (2 : Nat) (Option.some Jvm.ClassFile.FieldType.boolean)) ∈ lw_tbl := List.mem_append_right _ (List.mem_of_getElem? (i := 230) (by decide +kernel))
theorem k_231 : (Jvm.Cond.methodLink "SchemaRecords$SchemaReader" (19 : Nat) y_Scanner_next) ∈ lw_tbl := List.mem_append_right _ (List.mem_of_getElem? (i := 231) (by decide +kernel))
theorem k_232 : (Jvm.Cond.instanceMethod y_Scanner_next) ∈ lw_tbl := List.mem_append_right _ (List.mem_of_getElem? (i := 232) (by decide +kernel))
theorem k_233 : (Jvm.Cond.selects "SchemaRecords$Scanner" y_Scanner_next y_Scanner_next) ∈ lw_tbl := List.mem_append_right _ (List.mem_of_getElem? (i := 233) (by decide +kernel))
theorem k_234 : (Jvm.Cond.code y_Scanner_next prog_8_method_6_code (1 : Nat) (Option.some Jvm.ClassFile.FieldType.int)) ∈ lw_tbl := List.mem_append_right _ (List.mem_of_getElem? (i := 234) (by decide +kernel))
theorem k_235 : (Jvm.Cond.methodLink "SchemaRecords$Scanner" (34 : Nat) y_Scanner_here) ∈ lw_tbl := List.mem_append_right _ (List.mem_of_getElem? (i := 235) (by decide +kernel))
theorem k_236 : (Jvm.Cond.instanceMethod y_Scanner_here) ∈ lw_tbl := List.mem_append_right _ (List.mem_of_getElem? (i := 236) (by decide +kernel))
theorem k_237 : (Jvm.Cond.selects "SchemaRecords$Scanner" y_Scanner_here y_Scanner_here) ∈ lw_tbl := List.mem_append_right _ (List.mem_of_getElem? (i := 237) (by decide +kernel))
theorem k_238 : (Jvm.Cond.code y_Scanner_here prog_8_method_4_code (1 : Nat) (Option.some Jvm.ClassFile.FieldType.int)) ∈ lw_tbl := List.mem_append_right _ (List.mem_of_getElem? (i := 238) (by decide +kernel))
theorem k_239 : (Jvm.Cond.methodLink "SchemaRecords$SchemaReader" (25 : Nat) y_SchemaReader_readField) ∈ lw_tbl := List.mem_append_right _ (List.mem_of_getElem? (i := 239) (by decide +kernel))
theorem k_240 : (Jvm.Cond.privateMethod y_SchemaReader_readField) ∈ lw_tbl := List.mem_append_right _ (List.mem_of_getElem? (i := 240) (by decide +kernel))
theorem k_241 : (Jvm.Cond.instanceMethod y_SchemaReader_readField) ∈ lw_tbl := List.mem_append_right _ (List.mem_of_getElem? (i := 241) (by decide +kernel))
theorem k_242 : (Jvm.Cond.code y_SchemaReader_readField prog_10_method_3_code (6 : Nat) (Option.some Jvm.ClassFile.FieldType.boolean)) ∈ lw_tbl := List.mem_append_right _ (List.mem_of_getElem? (i := 242) (by decide +kernel))
theorem k_243 : (Jvm.Cond.methodLink "SchemaRecords$SchemaReader" (33 : Nat) y_SchemaReader_readKind) ∈ lw_tbl := List.mem_append_right _ (List.mem_of_getElem? (i := 243) (by decide +kernel))
theorem k_244 : (Jvm.Cond.privateMethod y_SchemaReader_readKind) ∈ lw_tbl := List.mem_append_right _ (List.mem_of_getElem? (i := 244) (by decide +kernel))
theorem k_245 : (Jvm.Cond.instanceMethod y_SchemaReader_readKind) ∈ lw_tbl := List.mem_append_right _ (List.mem_of_getElem? (i := 245) (by decide +kernel))
theorem k_246 : (Jvm.Cond.code y_SchemaReader_readKind prog_10_method_6_code (1 : Nat) (Option.some Jvm.ClassFile.FieldType.int)) ∈ lw_tbl := List.mem_append_right _ (List.mem_of_getElem? (i := 246) (by decide +kernel))
theorem k_247 : (Jvm.Cond.methodLink "SchemaRecords$SchemaReader" (39 : Nat) y_Scanner_takeWord) ∈ lw_tbl := List.mem_append_right _ (List.mem_of_getElem? (i := 247) (by decide +kernel))
theorem k_248 : (Jvm.Cond.instanceMethod y_Scanner_takeWord) ∈ lw_tbl := List.mem_append_right _ (List.mem_of_getElem? (i := 248) (by decide +kernel))
theorem k_249 : (Jvm.Cond.selects "SchemaRecords$Scanner" y_Scanner_takeWord y_Scanner_takeWord) ∈ lw_tbl := List.mem_append_right _ (List.mem_of_getElem? (i := 249) (by decide +kernel))
theorem k_250 : (Jvm.Cond.code y_Scanner_takeWord prog_8_method_11_code (1 : Nat) (Option.some Jvm.ClassFile.FieldType.boolean)) ∈ lw_tbl := List.mem_append_right _ (List.mem_of_getElem? (i := 250) (by decide +kernel))
theorem k_251 : (Jvm.Cond.methodLink "SchemaRecords$Scanner" (45 : Nat) y_Scanner_next) ∈ lw_tbl := List.mem_append_right _ (List.mem_of_getElem? (i := 251) (by decide +kernel))
theorem k_252 : (Jvm.Cond.methodLink "SchemaRecords$Scanner" (52 : Nat) y_Scanner_isLetter) ∈ lw_tbl := List.mem_append_right _ (List.mem_of_getElem? (i := 252) (by decide +kernel))
theorem k_253 : (Jvm.Cond.static y_Scanner_isLetter) ∈ lw_tbl := List.mem_append_right _ (List.mem_of_getElem? (i := 253) (by decide +kernel))
theorem k_254 : (Jvm.Cond.code y_Scanner_isLetter prog_8_method_15_code (1 : Nat) (Option.some Jvm.ClassFile.FieldType.boolean)) ∈ lw_tbl := List.mem_append_right _ (List.mem_of_getElem? (i := 254) (by decide +kernel))
theorem k_255 : (Jvm.Cond.methodLink "SchemaRecords$Scanner" (48 : Nat) y_Scanner_failHere) ∈ lw_tbl := List.mem_append_right _ (List.mem_of_getElem? (i := 255) (by decide +kernel))
theorem k_256 : (Jvm.Cond.instanceMethod y_Scanner_failHere) ∈ lw_tbl := List.mem_append_right _ (List.mem_of_getElem? (i := 256) (by decide +kernel))
theorem k_257 : (Jvm.Cond.selects "SchemaRecords$Scanner" y_Scanner_failHere y_Scanner_failHere) ∈ lw_tbl := List.mem_append_right _ (List.mem_of_getElem? (i := 257) (by decide +kernel))
theorem k_258 : (Jvm.Cond.code y_Scanner_failHere prog_8_method_8_code (1 : Nat) (Option.some Jvm.ClassFile.FieldType.boolean)) ∈ lw_tbl := List.mem_append_right _ (List.mem_of_getElem? (i := 258) (by decide +kernel))
theorem k_259 : (Jvm.Cond.methodLink "SchemaRecords$Scanner" (38 : Nat) y_Scanner_fail) ∈ lw_tbl := List.mem_append_right _ (List.mem_of_getElem? (i := 259) (by decide +kernel))
theorem k_260 : (Jvm.Cond.instanceMethod y_Scanner_fail) ∈ lw_tbl := List.mem_append_right _ (List.mem_of_getElem? (i := 260) (by decide +kernel))
theorem k_261 : (Jvm.Cond.selects "SchemaRecords$Scanner" y_Scanner_fail y_Scanner_fail) ∈ lw_tbl := List.mem_append_right _ (List.mem_of_getElem? (i := 261) (by decide +kernel))
theorem k_262 : (Jvm.Cond.code y_Scanner_fail prog_8_method_7_code (2 : Nat) (Option.some Jvm.ClassFile.FieldType.boolean)) ∈ lw_tbl := List.mem_append_right _ (List.mem_of_getElem? (i := 262) (by decide +kernel))
theorem k_263 : (Jvm.Cond.methodLink "SchemaRecords$Scanner" (55 : Nat) y_Scanner_isOfWord) ∈ lw_tbl := List.mem_append_right _ (List.mem_of_getElem? (i := 263) (by decide +kernel))
theorem k_264 : (Jvm.Cond.static y_Scanner_isOfWord) ∈ lw_tbl := List.mem_append_right _ (List.mem_of_getElem? (i := 264) (by decide +kernel))
theorem k_265 : (Jvm.Cond.code y_Scanner_isOfWord prog_8_method_16_code (1 : Nat) (Option.some Jvm.ClassFile.FieldType.boolean)) ∈ lw_tbl := List.mem_append_right _ (List.mem_of_getElem? (i := 265) (by decide +kernel))
theorem k_266 : (Jvm.Cond.methodLink "SchemaRecords$Scanner" (74 : Nat) y_Scanner_isDigit) ∈ lw_tbl := List.mem_append_right _ (List.mem_of_getElem? (i := 266) (by decide +kernel))
theorem k_267 : (Jvm.Cond.static y_Scanner_isDigit) ∈ lw_tbl := List.mem_append_right _ (List.mem_of_getElem? (i := 267) (by decide +kernel))
theorem k_268 : (Jvm.Cond.code y_Scanner_isDigit prog_8_method_14_code (1 : Nat) (Option.some Jvm.ClassFile.FieldType.boolean)) ∈ lw_tbl := List.mem_append_right _ (List.mem_of_getElem? (i := 268) (by decide +kernel))
theorem k_269 : (Jvm.Cond.stringRef "SchemaRecords$SchemaReader" (80 : Nat) "required") ∈ lw_tbl := List.mem_append_right _ (List.mem_of_getElem? (i := 269) (by decide +kernel))
theorem k_270 : (Jvm.Cond.methodLink "SchemaRecords$SchemaReader" (82 : Nat) y_Scanner_wordIs) ∈ lw_tbl := List.mem_append_right _ (List.mem_of_getElem? (i := 270) (by decide +kernel))
theorem k_271 : (Jvm.Cond.instanceMethod y_Scanner_wordIs) ∈ lw_tbl := List.mem_append_right _ (List.mem_of_getElem? (i := 271) (by decide +kernel))
theorem k_272 : (Jvm.Cond.selects "SchemaRecords$Scanner" y_Scanner_wordIs y_Scanner_wordIs) ∈ lw_tbl := List.mem_append_right _ (List.mem_of_getElem? (i := 272) (by decide +kernel))
theorem k_273 : (Jvm.Cond.code y_Scanner_wordIs prog_8_method_13_code (3 : Nat) (Option.some Jvm.ClassFile.FieldType.boolean)) ∈ lw_tbl := List.mem_append_right _ (List.mem_of_getElem? (i := 273) (by decide +kernel))
theorem k_274 : (Jvm.Cond.methodLink "SchemaRecords$Scanner" (61 : Nat) y_JS_length) ∈ lw_tbl := List.mem_append_right _ (List.mem_of_getElem? (i := 274) (by decide +kernel))
theorem k_275 : (Jvm.Cond.instanceMethod y_JS_length) ∈ lw_tbl := List.mem_append_right _ (List.mem_of_getElem? (i := 275) (by decide +kernel))
theorem k_276 : (Jvm.Cond.selects "java/lang/String" y_JS_length y_JS_length) ∈ lw_tbl := List.mem_append_right _ (List.mem_of_getElem? (i := 276) (by decide +kernel))
theorem k_277 : (Jvm.Cond.code y_JS_length prog_16_method_54_code (1 : Nat) (Option.some Jvm.ClassFile.FieldType.int)) ∈ lw_tbl := List.mem_append_right _ (List.mem_of_getElem? (i := 277) (by decide +kernel))
theorem k_278 : (Jvm.Cond.methodLink "java/lang/String" (335 : Nat) y_JS_coder) ∈ lw_tbl := List.mem_append_right _ (List.mem_of_getElem? (i := 278) (by decide +kernel))
theorem k_279 : (Jvm.Cond.instanceMethod y_JS_coder) ∈ lw_tbl := List.mem_append_right _ (List.mem_of_getElem? (i := 279) (by decide +kernel))
theorem k_280 : (Jvm.Cond.selects "java/lang/String" y_JS_coder y_JS_coder) ∈ lw_tbl := List.mem_append_right _ (List.mem_of_getElem? (i := 280) (by decide +kernel))
theorem k_281 : (Jvm.Cond.code y_JS_coder prog_16_method_152_code (1 : Nat) (Option.some Jvm.ClassFile.FieldType.byte)) ∈ lw_tbl := List.mem_append_right _ (List.mem_of_getElem? (i := 281) (by decide +kernel))
theorem k_282 : (Jvm.Cond.fieldLink "java/lang/String" (38 : Nat) "java/lang/String" "COMPACT_STRINGS" "Z") ∈ lw_tbl := List.mem_append_right _ (List.mem_of_getElem? (i := 282) (by decide +kernel))
theorem k_283 : (Jvm.Cond.laysStatic "java/lang/String" "COMPACT_STRINGS" "Z") ∈ lw_tbl := List.mem_append_right _ (List.mem_of_getElem? (i := 283) (by decide +kernel))
theorem k_284 : (Jvm.Cond.methodLink "SchemaRecords$Scanner" (66 : Nat) y_Scanner_byteAt) ∈ lw_tbl := List.mem_append_right _ (List.mem_of_getElem? (i := 284) (by decide +kernel))
theorem k_285 : (Jvm.Cond.instanceMethod y_Scanner_byteAt) ∈ lw_tbl := List.mem_append_right _ (List.mem_of_getElem? (i := 285) (by decide +kernel))
theorem k_286 : (Jvm.Cond.selects "SchemaRecords$Scanner" y_Scanner_byteAt y_Scanner_byteAt) ∈ lw_tbl := List.mem_append_right _ (List.mem_of_getElem? (i := 286) (by decide +kernel))
theorem k_287 : (Jvm.Cond.code y_Scanner_byteAt prog_8_method_2_code (2 : Nat) (Option.some Jvm.ClassFile.FieldType.int)) ∈ lw_tbl := List.mem_append_right _ (List.mem_of_getElem? (i := 287) (by decide +kernel))
theorem k_288 : (Jvm.Cond.methodLink "SchemaRecords$Scanner" (70 : Nat) y_JS_charAt) ∈ lw_tbl := List.mem_append_right _ (List.mem_of_getElem? (i := 288) (by decide +kernel))
theorem k_289 : (Jvm.Cond.instanceMethod y_JS_charAt) ∈ lw_tbl := List.mem_append_right _ (List.mem_of_getElem? (i := 289) (by decide +kernel))
theorem k_290 : (Jvm.Cond.selects "java/lang/String" y_JS_charAt y_JS_charAt) ∈ lw_tbl := List.mem_append_right _ (List.mem_of_getElem? (i := 290) (by decide +kernel))
theorem k_291 : (Jvm.Cond.code y_JS_charAt prog_16_method_56_code (2 : Nat) (Option.some Jvm.ClassFile.FieldType.char)) ∈ lw_tbl := List.mem_append_right _ (List.mem_of_getElem? (i := 291) (by decide +kernel))
theorem k_292 : (Jvm.Cond.methodLink "java/lang/String" (492 : Nat) y_JS_isLatin1) ∈ lw_tbl := List.mem_append_right _ (List.mem_of_getElem? (i := 292) (by decide +kernel))
theorem k_293 : (Jvm.Cond.instanceMethod y_JS_isLatin1) ∈ lw_tbl := List.mem_append_right _ (List.mem_of_getElem? (i := 293) (by decide +kernel))
theorem k_294 : (Jvm.Cond.selects "java/lang/String" y_JS_isLatin1 y_JS_isLatin1) ∈ lw_tbl := List.mem_append_right _ (List.mem_of_getElem? (i := 294) (by decide +kernel))
theorem k_295 : (Jvm.Cond.code y_JS_isLatin1 prog_16_method_154_code (1 : Nat) (Option.some Jvm.ClassFile.FieldType.boolean)) ∈ lw_tbl := List.mem_append_right _ (List.mem_of_getElem? (i := 295) (by decide +kernel))
theorem k_296 : (Jvm.Cond.methodLink "java/lang/String" (495 : Nat) y_JL_charAt) ∈ lw_tbl := List.mem_append_right _ (List.mem_of_getElem? (i := 296) (by decide +kernel))
theorem k_297 : (Jvm.Cond.static y_JL_charAt) ∈ lw_tbl := List.mem_append_right _ (List.mem_of_getElem? (i := 297) (by decide +kernel))
theorem k_298 : (Jvm.Cond.code y_JL_charAt prog_17_method_2_code (2 : Nat) (Option.some Jvm.ClassFile.FieldType.char)) ∈ lw_tbl := List.mem_append_right _ (List.mem_of_getElem? (i := 298) (by decide +kernel))
theorem k_299 : (Jvm.Cond.methodLink "java/lang/StringLatin1" (9 : Nat) y_JS_checkIndex) ∈ lw_tbl := List.mem_append_right _ (List.mem_of_getElem? (i := 299) (by decide +kernel))
theorem k_300 : (Jvm.Cond.static y_JS_checkIndex) ∈ lw_tbl := List.mem_append_right _ (List.mem_of_getElem? (i := 300) (by decide +kernel))
theorem k_301 : (Jvm.Cond.code y_JS_checkIndex prog_16_method_155_code (2 : Nat) (Option.none : Option Jvm.ClassFile.FieldType)) ∈ lw_tbl := List.mem_append_right _ (List.mem_of_getElem? (i := 301) (by decide +kernel))
theorem k_302 : (Jvm.Cond.fieldLink "java/lang/String" (1053 : Nat) "jdk/internal/util/Preconditions" "SIOOBE_FORMATTER" "Ljava/util/function/BiFunction;") ∈ lw_tbl := List.mem_append_right _ (List.mem_of_getElem? (i := 302) (by decide +kernel))
theorem k_303 : (Jvm.Cond.laysStatic "jdk/internal/util/Preconditions" "SIOOBE_FORMATTER" "Ljava/util/function/BiFunction;") ∈ lw_tbl := List.mem_append_right _ (List.mem_of_getElem? (i := 303) (by decide +kernel))
theorem k_304 : (Jvm.Cond.methodLink "java/lang/String" (1059 : Nat) y_JP_checkIndex) ∈ lw_tbl := List.mem_append_right _ (List.mem_of_getElem? (i := 304) (by decide +kernel))
theorem k_305 : (Jvm.Cond.static y_JP_checkIndex) ∈ lw_tbl := List.mem_append_right _ (List.mem_of_getElem? (i := 305) (by decide +kernel))
theorem k_306 : (Jvm.Cond.code y_JP_checkIndex prog_21_method_11_code (3 : Nat) (Option.some Jvm.ClassFile.FieldType.int)) ∈ lw_tbl := List.mem_append_right _ (List.mem_of_getElem? (i := 306) (by decide +kernel))
theorem k_307 : (Jvm.Cond.methodLink "java/lang/String" (498 : Nat) y_JU_charAt) ∈ lw_tbl := List.mem_append_right _ (List.mem_of_getElem? (i := 307) (by decide +kernel))
theorem k_308 : (Jvm.Cond.static y_JU_charAt) ∈ lw_tbl := List.mem_append_right _ (List.mem_of_getElem? (i := 308) (by decide +kernel))
theorem k_309 : (Jvm.Cond.code y_JU_charAt prog_18_method_83_code (2 : Nat) (Option.some Jvm.ClassFile.FieldType.char)) ∈ lw_tbl := List.mem_append_right _ (List.mem_of_getElem? (i := 309) (by decide +kernel))
theorem k_310 : (Jvm.Cond.methodLink "java/lang/StringUTF16" (67 : Nat) y_JU_checkIndex) ∈ lw_tbl := List.mem_append_right _ (List.mem_of_getElem? (i := 310) (by decide +kernel))
theorem k_311 : (Jvm.Cond.static y_JU_checkIndex) ∈ lw_tbl := List.mem_append_right _ (List.mem_of_getElem? (i := 311) (by decide +kernel))
theorem k_312 : (Jvm.Cond.code y_JU_checkIndex prog_18_method_91_code (2 : Nat) (Option.none : Option Jvm.ClassFile.FieldType)) ∈ lw_tbl := List.mem_append_right _ (List.mem_of_getElem? (i := 312) (by decide +kernel))
theorem k_313 : (Jvm.Cond.methodLink "java/lang/StringUTF16" (48 : Nat) y_JU_length) ∈ lw_tbl := List.mem_append_right _ (List.mem_of_getElem? (i := 313) (by decide +kernel))
theorem k_314 : (Jvm.Cond.static y_JU_length) ∈ lw_tbl := List.mem_append_right _ (List.mem_of_getElem? (i := 314) (by decide +kernel))
theorem k_315 : (Jvm.Cond.code y_JU_length prog_18_method_6_code (1 : Nat) (Option.some Jvm.ClassFile.FieldType.int)) ∈ lw_tbl := List.mem_append_right _ (List.mem_of_getElem? (i := 315) (by decide +kernel))
theorem k_316 : (Jvm.Cond.methodLink "java/lang/StringUTF16" (414 : Nat) y_JS_checkIndex) ∈ lw_tbl := List.mem_append_right _ (List.mem_of_getElem? (i := 316) (by decide +kernel))
theorem k_317 : (Jvm.Cond.methodLink "java/lang/StringUTF16" (71 : Nat) y_JU_getChar) ∈ lw_tbl := List.mem_append_right _ (List.mem_of_getElem? (i := 317) (by decide +kernel))
theorem k_318 : (Jvm.Cond.static y_JU_getChar) ∈ lw_tbl := List.mem_append_right _ (List.mem_of_getElem? (i := 318) (by decide +kernel))
theorem k_319 : (Jvm.Cond.code y_JU_getChar prog_18_method_5_code (2 : Nat) (Option.some Jvm.ClassFile.FieldType.char)) ∈ lw_tbl := List.mem_append_right _ (List.mem_of_getElem? (i := 319) (by decide +kernel))
theorem k_320 : (Jvm.Cond.fieldLink "java/lang/StringUTF16" (44 : Nat) "java/lang/StringUTF16" "$assertionsDisabled" "Z") ∈ lw_tbl := List.mem_append_right _ (List.mem_of_getElem? (i := 320) (by decide +kernel))
theorem k_321 : (Jvm.Cond.laysStatic "java/lang/StringUTF16" "$assertionsDisabled" "Z") ∈ lw_tbl := List.mem_append_right _ (List.mem_of_getElem? (i := 321) (by decide +kernel))
theorem k_322 : (Jvm.Cond.fieldLink "java/lang/StringUTF16" (59 : Nat) "java/lang/StringUTF16" "HI_BYTE_SHIFT" "I") ∈ lw_tbl := List.mem_append_right _ (List.mem_of_getElem? (i := 322) (by decide +kernel))
theorem k_323 : (Jvm.Cond.laysStatic "java/lang/StringUTF16" "HI_BYTE_SHIFT" "I") ∈ lw_tbl := List.mem_append_right _ (List.mem_of_getElem? (i := 323) (by decide +kernel))
theorem k_324 : (Jvm.Cond.fieldLink "java/lang/StringUTF16" (63 : Nat) "java/lang/StringUTF16" "LO_BYTE_SHIFT" "I") ∈ lw_tbl := List.mem_append_right _ (List.mem_of_getElem? (i := 324) (by decide +kernel))
theorem k_325 : (Jvm.Cond.laysStatic "java/lang/StringUTF16" "LO_BYTE_SHIFT" "I") ∈ lw_tbl := List.mem_append_right _ (List.mem_of_getElem? (i := 325) (by decide +kernel))
theorem k_326 : (Jvm.Cond.stringRef "SchemaRecords$SchemaReader" (86 : Nat) "optional") ∈ lw_tbl := List.mem_append_right _ (List.mem_of_getElem? (i := 326) (by decide +kernel))
theorem k_327 : (Jvm.Cond.stringRef "SchemaRecords$SchemaReader" (88 : Nat) "repeated") ∈ lw_tbl := List.mem_append_right _ (List.mem_of_getElem? (i := 327) (by decide +kernel))
theorem k_328 : (Jvm.Cond.methodLink "SchemaRecords$SchemaReader" (46 : Nat) y_Scanner_failAtWord) ∈ lw_tbl := List.mem_append_right _ (List.mem_of_getElem? (i := 328) (by decide +kernel))
theorem k_329 : (Jvm.Cond.instanceMethod y_Scanner_failAtWord) ∈ lw_tbl := List.mem_append_right _ (List.mem_of_getElem? (i := 329) (by decide +kernel))
theorem k_330 : (Jvm.Cond.selects "SchemaRecords$Scanner" y_Scanner_failAtWord y_Scanner_failAtWord) ∈ lw_tbl := List.mem_append_right _ (List.mem_of_getElem? (i := 330) (by decide +kernel))
theorem k_331 : (Jvm.Cond.code y_Scanner_failAtWord prog_8_method_9_code (1 : Nat) (Option.some Jvm.ClassFile.FieldType.boolean)) ∈ lw_tbl := List.mem_append_right _ (List.mem_of_getElem? (i := 331) (by decide +kernel))
theorem k_332 : (Jvm.Cond.methodLink "SchemaRecords$SchemaReader" (36 : Nat) y_SchemaReader_readType) ∈ lw_tbl := List.mem_append_right _ (List.mem_of_getElem? (i := 332) (by decide +kernel))
theorem k_333 : (Jvm.Cond.privateMethod y_SchemaReader_readType) ∈ lw_tbl := List.mem_append_right _ (List.mem_of_getElem? (i := 333) (by decide +kernel))
theorem k_334 : (Jvm.Cond.instanceMethod y_SchemaReader_readType) ∈ lw_tbl := List.mem_append_right _ (List.mem_of_getElem? (i := 334) (by decide +kernel))
theorem k_335 : (Jvm.Cond.code y_SchemaReader_readType prog_10_method_7_code (1 : Nat) (Option.some Jvm.ClassFile.FieldType.int)) ∈ lw_tbl := List.mem_append_right _ (List.mem_of_getElem? (i := 335) (by decide +kernel))
theorem k_336 : (Jvm.Cond.stringRef "SchemaRecords$SchemaReader" (90 : Nat) "bool") ∈ lw_tbl := List.mem_append_right _ (List.mem_of_getElem? (i := 336) (by decide +kernel))
theorem k_337 : (Jvm.Cond.stringRef "SchemaRecords$SchemaReader" (92 : Nat) "int") ∈ lw_tbl := List.mem_append_right _ (List.mem_of_getElem? (i := 337) (by decide +kernel))
theorem k_338 : (Jvm.Cond.stringRef "SchemaRecords$SchemaReader" (94 : Nat) "long") ∈ lw_tbl := List.mem_append_right _ (List.mem_of_getElem? (i := 338) (by decide +kernel))
theorem k_339 : (Jvm.Cond.stringRef "SchemaRecords$SchemaReader" (96 : Nat) "text") ∈ lw_tbl := List.mem_append_right _ (List.mem_of_getElem? (i := 339) (by decide +kernel))
theorem k_340 : (Jvm.Cond.stringRef "SchemaRecords$SchemaReader" (97 : Nat) "group") ∈ lw_tbl := List.mem_append_right _ (List.mem_of_getElem? (i := 340) (by decide +kernel))
theorem k_341 : (Jvm.Cond.methodLink "SchemaRecords$SchemaReader" (42 : Nat) y_SchemaReader_nameStands) ∈ lw_tbl := List.mem_append_right _ (List.mem_of_getElem? (i := 341) (by decide +kernel))
theorem k_342 : (Jvm.Cond.privateMethod y_SchemaReader_nameStands) ∈ lw_tbl := List.mem_append_right _ (List.mem_of_getElem? (i := 342) (by decide +kernel))
theorem k_343 : (Jvm.Cond.instanceMethod y_SchemaReader_nameStands) ∈ lw_tbl := List.mem_append_right _ (List.mem_of_getElem? (i := 343) (by decide +kernel))
theorem k_344 : (Jvm.Cond.code y_SchemaReader_nameStands prog_10_method_5_code (4 : Nat) (Option.some Jvm.ClassFile.FieldType.boolean)) ∈ lw_tbl := List.mem_append_right _ (List.mem_of_getElem? (i := 344) (by decide +kernel))
theorem k_345 : (Jvm.Cond.methodLink "SchemaRecords$SchemaReader" (73 : Nat) y_Schema_hasRoomFor) ∈ lw_tbl := List.mem_append_right _ (List.mem_of_getElem? (i := 345) (by decide +kernel))
theorem k_346 : (Jvm.Cond.instanceMethod y_Schema_hasRoomFor) ∈ lw_tbl := List.mem_append_right _ (List.mem_of_getElem? (i := 346) (by decide +kernel))
theorem k_347 : (Jvm.Cond.selects "SchemaRecords$Schema" y_Schema_hasRoomFor y_Schema_hasRoomFor) ∈ lw_tbl := List.mem_append_right _ (List.mem_of_getElem? (i := 347) (by decide +kernel))
theorem k_348 : (Jvm.Cond.code y_Schema_hasRoomFor prog_9_method_4_code (2 : Nat) (Option.some Jvm.ClassFile.FieldType.boolean)) ∈ lw_tbl := List.mem_append_right _ (List.mem_of_getElem? (i := 348) (by decide +kernel))
theorem k_349 : (Jvm.Cond.methodLink "SchemaRecords$SchemaReader" (76 : Nat) y_Schema_named) ∈ lw_tbl := List.mem_append_right _ (List.mem_of_getElem? (i := 349) (by decide +kernel))
theorem k_350 : (Jvm.Cond.instanceMethod y_Schema_named) ∈ lw_tbl := List.mem_append_right _ (List.mem_of_getElem? (i := 350) (by decide +kernel))
theorem k_351 : (Jvm.Cond.selects "SchemaRecords$Schema" y_Schema_named y_Schema_named) ∈ lw_tbl := List.mem_append_right _ (List.mem_of_getElem? (i := 351) (by decide +kernel))
theorem k_352 : (Jvm.Cond.code y_Schema_named prog_9_method_8_code (7 : Nat) (Option.some Jvm.ClassFile.FieldType.int)) ∈ lw_tbl := List.mem_append_right _ (List.mem_of_getElem? (i := 352) (by decide +kernel))
theorem k_353 : (Jvm.Cond.methodLink "SchemaRecords$Schema" (48 : Nat) y_Schema_fieldAt) ∈ lw_tbl := List.mem_append_right _ (List.mem_of_getElem? (i := 353) (by decide +kernel))
theorem k_354 : (Jvm.Cond.instanceMethod y_Schema_fieldAt) ∈ lw_tbl := List.mem_append_right _ (List.mem_of_getElem? (i := 354) (by decide +kernel))
theorem k_355 : (Jvm.Cond.selects "SchemaRecords$Schema" y_Schema_fieldAt y_Schema_fieldAt) ∈ lw_tbl := List.mem_append_right _ (List.mem_of_getElem? (i := 355) (by decide +kernel))
theorem k_356 : (Jvm.Cond.code y_Schema_fieldAt prog_9_method_2_code (2 : Nat) (Option.some (Jvm.ClassFile.FieldType.object "SchemaRecords$Field"))) ∈ lw_tbl := List.mem_append_right _ (List.mem_of_getElem? (i := 356) (by decide +kernel))
theorem k_357 : (Jvm.Cond.methodLink "SchemaRecords$Schema" (67 : Nat) y_Field_isNamed) ∈ lw_tbl := List.mem_append_right _ (List.mem_of_getElem? (i := 357) (by decide +kernel))
theorem k_358 : (Jvm.Cond.instanceMethod y_Field_isNamed) ∈ lw_tbl := List.mem_append_right _ (List.mem_of_getElem? (i := 358) (by decide +kernel))
theorem k_359 : (Jvm.Cond.selects "SchemaRecords$Field" y_Field_isNamed y_Field_isNamed) ∈ lw_tbl := List.mem_append_right _ (List.mem_of_getElem? (i := 359) (by decide +kernel))
theorem k_360 : (Jvm.Cond.code y_Field_isNamed prog_3_method_3_code (5 : Nat) (Option.some Jvm.ClassFile.FieldType.boolean)) ∈ lw_tbl := List.mem_append_right _ (List.mem_of_getElem? (i := 360) (by decide +kernel))
theorem k_361 : (Jvm.Cond.methodLink "SchemaRecords$Field" (37 : Nat) y_Scanner_byteAt) ∈ lw_tbl := List.mem_append_right _ (List.mem_of_getElem? (i := 361) (by decide +kernel))
theorem k_362 : (Jvm.Cond.methodLink "SchemaRecords$SchemaReader" (56 : Nat) y_Scanner_copy) ∈ lw_tbl := List.mem_append_right _ (List.mem_of_getElem? (i := 362) (by decide +kernel))
theorem k_363 : (Jvm.Cond.instanceMethod y_Scanner_copy) ∈ lw_tbl := List.mem_append_right _ (List.mem_of_getElem? (i := 363) (by decide +kernel))
theorem k_364 : (Jvm.Cond.selects "SchemaRecords$Scanner" y_Scanner_copy y_Scanner_copy) ∈ lw_tbl := List.mem_append_right _ (List.mem_of_getElem? (i := 364) (by decide +kernel))
theorem k_365 : (Jvm.Cond.code y_Scanner_copy prog_8_method_3_code (3 : Nat) (Option.some (Jvm.ClassFile.FieldType.array Jvm.ClassFile.FieldType.byte))) ∈ lw_tbl := List.mem_append_right _ (List.mem_of_getElem? (i := 365) (by decide +kernel))
theorem k_366 : (Jvm.Cond.fieldLinkNest "SchemaRecords$Scanner" (22 : Nat) "SchemaRecords" "NO_BYTES" "[B" "SchemaRecords") ∈ lw_tbl := List.mem_append_right _ (List.mem_of_getElem? (i := 366) (by decide +kernel))
theorem k_367 : (Jvm.Cond.methodLink "SchemaRecords$Scanner" (25 : Nat) y_JA_copyOfRange) ∈ lw_tbl := List.mem_append_right _ (List.mem_of_getElem? (i := 367) (by decide +kernel))
theorem k_368 : (Jvm.Cond.static y_JA_copyOfRange) ∈ lw_tbl := List.mem_append_right _ (List.mem_of_getElem? (i := 368) (by decide +kernel))
theorem k_369 : (Jvm.Cond.code y_JA_copyOfRange prog_20_method_132_code (3 : Nat) (Option.some (Jvm.ClassFile.FieldType.array Jvm.ClassFile.FieldType.byte))) ∈ lw_tbl := List.mem_append_right _ (List.mem_of_getElem? (i := 369) (by decide +kernel))
theorem k_370 : (Jvm.Cond.methodLink "java/util/Arrays" (339 : Nat) y_JA_copyOfRangeByte) ∈ lw_tbl := List.mem_append_right _ (List.mem_of_getElem? (i := 370) (by decide +kernel))
theorem k_371 : (Jvm.Cond.static y_JA_copyOfRangeByte) ∈ lw_tbl := List.mem_append_right _ (List.mem_of_getElem? (i := 371) (by decide +kernel))
theorem k_372 : (Jvm.Cond.code y_JA_copyOfRangeByte prog_20_method_133_code (5 : Nat) (Option.some (Jvm.ClassFile.FieldType.array Jvm.ClassFile.FieldType.byte))) ∈ lw_tbl := List.mem_append_right _ (List.mem_of_getElem? (i := 372) (by decide +kernel))
theorem k_373 : (Jvm.Cond.methodLink "java/util/Arrays" (343 : Nat) y_JA_checkLength) ∈ lw_tbl := List.mem_append_right _ (List.mem_of_getElem? (i := 373) (by decide +kernel))
theorem k_374 : (Jvm.Cond.static y_JA_checkLength) ∈ lw_tbl := List.mem_append_right _ (List.mem_of_getElem? (i := 374) (by decide +kernel))
theorem k_375 : (Jvm.Cond.code y_JA_checkLength prog_20_method_131_code (2 : Nat) (Option.none : Option Jvm.ClassFile.FieldType)) ∈ lw_tbl := List.mem_append_right _ (List.mem_of_getElem? (i := 375) (by decide +kernel))
theorem k_376 : (Jvm.Cond.methodLink "java/util/Arrays" (304 : Nat) y_JM_min) ∈ lw_tbl := List.mem_append_right _ (List.mem_of_getElem? (i := 376) (by decide +kernel))
theorem k_377 : (Jvm.Cond.static y_JM_min) ∈ lw_tbl := List.mem_append_right _ (List.mem_of_getElem? (i := 377) (by decide +kernel))
theorem k_378 : (Jvm.Cond.code y_JM_min prog_15_method_69_code (2 : Nat) (Option.some Jvm.ClassFile.FieldType.int)) ∈ lw_tbl := List.mem_append_right _ (List.mem_of_getElem? (i := 378) (by decide +kernel))
theorem k_379 : (Jvm.Cond.methodLink "java/util/Arrays" (150 : Nat) y_JY_arraycopy) ∈ lw_tbl := List.mem_append_right _ (List.mem_of_getElem? (i := 379) (by decide +kernel))
theorem k_380 : (Jvm.Cond.static y_JY_arraycopy) ∈ lw_tbl := List.mem_append_right _ (List.mem_of_getElem? (i := 380) (by decide +kernel))
theorem k_381 : (Jvm.Cond.native y_JY_arraycopy) ∈ lw_tbl := List.mem_append_right _ (List.mem_of_getElem? (i := 381) (by decide +kernel))
theorem k_382 : (Jvm.Cond.methodLink "java/util/Arrays" (310 : Nat) y_J_B_clone) ∈ lw_tbl := List.mem_append_right _ (List.mem_of_getElem? (i := 382) (by decide +kernel))
theorem k_383 : (Jvm.Cond.sameMethod "[B" "java/lang/Object" "clone" "()Ljava/lang/Object;") ∈ lw_tbl := List.mem_append_right _ (List.mem_of_getElem? (i := 383) (by decide +kernel))
theorem k_384 : (Jvm.Cond.native y_JO_clone) ∈ lw_tbl := List.mem_append_right _ (List.mem_of_getElem? (i := 384) (by decide +kernel))
theorem k_385 : (Jvm.Cond.instanceMethod y_JO_clone) ∈ lw_tbl := List.mem_append_right _ (List.mem_of_getElem? (i := 385) (by decide +kernel))
theorem k_386 : (Jvm.Cond.selects "[B" y_J_B_clone y_JO_clone) ∈ lw_tbl := List.mem_append_right _ (List.mem_of_getElem? (i := 386) (by decide +kernel))
theorem k_387 : (Jvm.Cond.castable "[B" "java/lang/Cloneable") ∈ lw_tbl := List.mem_append_right _ (List.mem_of_getElem? (i := 387) (by decide +kernel))
theorem k_388 : (Jvm.Cond.classLink "java/util/Arrays" (311 : Nat) "[B") ∈ lw_tbl := List.mem_append_right _ (List.mem_of_getElem? (i := 388) (by decide +kernel))
theorem k_389 : (Jvm.Cond.methodLink "SchemaRecords$SchemaReader" (60 : Nat) y_Schema_append) ∈ lw_tbl := List.mem_append_right _ (List.mem_of_getElem? (i := 389) (by decide +kernel))
theorem k_390 : (Jvm.Cond.instanceMethod y_Schema_append) ∈ lw_tbl := List.mem_append_right _ (List.mem_of_getElem? (i := 390) (by decide +kernel))
theorem k_391 : (Jvm.Cond.selects "SchemaRecords$Schema" y_Schema_append y_Schema_append) ∈ lw_tbl := List.mem_append_right _ (List.mem_of_getElem? (i := 391) (by decide +kernel))
theorem k_392 : (Jvm.Cond.code y_Schema_append prog_9_method_5_code (6 : Nat) (Option.some Jvm.ClassFile.FieldType.int)) ∈ lw_tbl := List.mem_append_right _ (List.mem_of_getElem? (i := 392) (by decide +kernel))
theorem k_393 : (Jvm.Cond.methodLink "SchemaRecords$Schema" (28 : Nat) y_Schema_hasRoomFor) ∈ lw_tbl := List.mem_append_right _ (List.mem_of_getElem? (i := 393) (by decide +kernel))
theorem k_394 : (Jvm.Cond.instantiable "SchemaRecords$Field" (9 : Nat)) ∈ lw_tbl := List.mem_append_right _ (List.mem_of_getElem? (i := 394) (by decide +kernel))
theorem k_395 : (Jvm.Cond.methodLink "SchemaRecords$Schema" (32 : Nat) y_Field_init) ∈ lw_tbl := List.mem_append_right _ (List.mem_of_getElem? (i := 395) (by decide +kernel))
theorem k_396 : (Jvm.Cond.instanceMethod y_Field_init) ∈ lw_tbl := List.mem_append_right _ (List.mem_of_getElem? (i := 396) (by decide +kernel))
theorem k_397 : (Jvm.Cond.code y_Field_init prog_3_method_1_code (6 : Nat) (Option.none : Option Jvm.ClassFile.FieldType)) ∈ lw_tbl := List.mem_append_right _ (List.mem_of_getElem? (i := 397) (by decide +kernel))
theorem k_398 : (Jvm.Cond.methodLink "SchemaRecords$Field" (3 : Nat) y_JO_init) ∈ lw_tbl := List.mem_append_right _ (List.mem_of_getElem? (i := 398) (by decide +kernel))
theorem k_399 : (Jvm.Cond.fieldLink "SchemaRecords$Field" (9 : Nat) "SchemaRecords$Field" "number" "I") ∈ lw_tbl := List.mem_append_right _ (List.mem_of_getElem? (i := 399) (by decide +kernel))
theorem k_400 : (Jvm.Cond.fieldLinkNest "SchemaRecords$RecordReader" (49 : Nat) "SchemaRecords$Field" "number" "I" "SchemaRecords") ∈ lw_tbl := List.mem_append_right _ (List.mem_of_getElem? (i := 400) (by decide +kernel))
theorem k_401 : (Jvm.Cond.fieldLinkNest "SchemaRecords$RecordWriter" (71 : Nat) "SchemaRecords$Field" "number" "I" "SchemaRecords") ∈ lw_tbl := List.mem_append_right _ (List.mem_of_getElem? (i := 401) (by decide +kernel))
theorem k_402 : (Jvm.Cond.fieldLinkNest "SchemaRecords$NodeRow" (41 : Nat) "SchemaRecords$Field" "number" "I" "SchemaRecords") ∈ lw_tbl := List.mem_append_right _ (List.mem_of_getElem? (i := 402) (by decide +kernel))
theorem k_403 : (Jvm.Cond.fieldLinkNest "SchemaRecords$Schema" (42 : Nat) "SchemaRecords$Field" "number" "I" "SchemaRecords") ∈ lw_tbl := List.mem_append_right _ (List.mem_of_getElem? (i := 403) (by decide +kernel))
theorem k_404 : (Jvm.Cond.fieldLink "SchemaRecords$Field" (15 : Nat) "SchemaRecords$Field" "kind" "I") ∈ lw_tbl := List.mem_append_right _ (List.mem_of_getElem? (i := 404) (by decide +kernel))
theorem k_405 : (Jvm.Cond.fieldLinkNest "SchemaRecords$RecordWriter" (82 : Nat) "SchemaRecords$Field" "kind" "I" "SchemaRecords") ∈ lw_tbl := List.mem_append_right _ (List.mem_of_getElem? (i := 405) (by decide +kernel))
theorem k_406 : (Jvm.Cond.fieldLinkNest "SchemaRecords$RecordReader" (75 : Nat) "SchemaRecords$Field" "kind" "I" "SchemaRecords") ∈ lw_tbl := List.mem_append_right _ (List.mem_of_getElem? (i := 406) (by decide +kernel))
theorem k_407 : (Jvm.Cond.fieldLinkNest "SchemaRecords$NodeRow" (49 : Nat) "SchemaRecords$Field" "kind" "I" "SchemaRecords") ∈ lw_tbl := List.mem_append_right _ (List.mem_of_getElem? (i := 407) (by decide +kernel))
theorem k_408 : (Jvm.Cond.fieldLinkNest "SchemaRecords$Schema" (58 : Nat) "SchemaRecords$Field" "kind" "I" "SchemaRecords") ∈ lw_tbl := List.mem_append_right _ (List.mem_of_getElem? (i := 408) (by decide +kernel))
theorem k_409 : (Jvm.Cond.fieldLink "SchemaRecords$Field" (18 : Nat) "SchemaRecords$Field" "type" "I") ∈ lw_tbl := List.mem_append_right _ (List.mem_of_getElem? (i := 409) (by decide +kernel))
theorem k_410 : (Jvm.Cond.fieldLinkNest "SchemaRecords$RecordWriter" (54 : Nat) "SchemaRecords$Field" "type" "I" "SchemaRecords") ∈ lw_tbl := List.mem_append_right _ (List.mem_of_getElem? (i := 410) (by decide +kernel))
theorem k_411 : (Jvm.Cond.fieldLinkNest "SchemaRecords$RecordReader" (84 : Nat) "SchemaRecords$Field" "type" "I" "SchemaRecords") ∈ lw_tbl := List.mem_append_right _ (List.mem_of_getElem? (i := 411) (by decide +kernel))
theorem k_412 : (Jvm.Cond.fieldLinkNest "SchemaRecords" (112 : Nat) "SchemaRecords$Field" "type" "I" "SchemaRecords") ∈ lw_tbl := List.mem_append_right _ (List.mem_of_getElem? (i := 412) (by decide +kernel))
theorem k_413 : (Jvm.Cond.fieldLink "SchemaRecords$Field" (21 : Nat) "SchemaRecords$Field" "group" "I") ∈ lw_tbl := List.mem_append_right _ (List.mem_of_getElem? (i := 413) (by decide +kernel))
theorem k_414 : (Jvm.Cond.fieldLinkNest "SchemaRecords$NodeRow" (58 : Nat) "SchemaRecords$Field" "group" "I" "SchemaRecords") ∈ lw_tbl := List.mem_append_right _ (List.mem_of_getElem? (i := 414) (by decide +kernel))
theorem k_415 : (Jvm.Cond.fieldLinkNest "SchemaRecords$Schema" (45 : Nat) "SchemaRecords$Field" "group" "I" "SchemaRecords") ∈ lw_tbl := List.mem_append_right _ (List.mem_of_getElem? (i := 415) (by decide +kernel))
theorem k_416 : (Jvm.Cond.fieldLink "SchemaRecords$Field" (24 : Nat) "SchemaRecords$Field" "name" "[B") ∈ lw_tbl := List.mem_append_right _ (List.mem_of_getElem? (i := 416) (by decide +kernel))
theorem k_417 : (Jvm.Cond.fieldLinkNest "SchemaRecords$RecordWriter" (74 : Nat) "SchemaRecords$Field" "name" "[B" "SchemaRecords") ∈ lw_tbl := List.mem_append_right _ (List.mem_of_getElem? (i := 417) (by decide +kernel))
theorem k_418 : (Jvm.Cond.fieldLinkNest "SchemaRecords" (85 : Nat) "SchemaRecords$Field" "name" "[B" "SchemaRecords") ∈ lw_tbl := List.mem_append_right _ (List.mem_of_getElem? (i := 418) (by decide +kernel))
theorem k_419 : (Jvm.Cond.fieldLink "SchemaRecords$Field" (28 : Nat) "SchemaRecords$Field" "column" "I") ∈ lw_tbl := List.mem_append_right _ (List.mem_of_getElem? (i := 419) (by decide +kernel))
theorem k_420 : (Jvm.Cond.fieldLinkNest "SchemaRecords$Schema" (39 : Nat) "SchemaRecords$Field" "column" "I" "SchemaRecords") ∈ lw_tbl := List.mem_append_right _ (List.mem_of_getElem? (i := 420) (by decide +kernel))
theorem k_421 : (Jvm.Cond.fieldLink "SchemaRecords$Field" (31 : Nat) "SchemaRecords$Field" "repetition" "I") ∈ lw_tbl := List.mem_append_right _ (List.mem_of_getElem? (i := 421) (by decide +kernel))
theorem k_422 : (Jvm.Cond.fieldLinkNest "SchemaRecords$Schema" (52 : Nat) "SchemaRecords$Field" "repetition" "I" "SchemaRecords") ∈ lw_tbl := List.mem_append_right _ (List.mem_of_getElem? (i := 422) (by decide +kernel))
theorem k_423 : (Jvm.Cond.fieldLink "SchemaRecords$Field" (34 : Nat) "SchemaRecords$Field" "definition" "I") ∈ lw_tbl := List.mem_append_right _ (List.mem_of_getElem? (i := 423) (by decide +kernel))
theorem k_424 : (Jvm.Cond.fieldLinkNest "SchemaRecords$Schema" (55 : Nat) "SchemaRecords$Field" "definition" "I" "SchemaRecords") ∈ lw_tbl := List.mem_append_right _ (List.mem_of_getElem? (i := 424) (by decide +kernel))
theorem k_425 : (Jvm.Cond.fieldLinkNest "SchemaRecords$Schema" (61 : Nat) "SchemaRecords$Field" "requiredInside" "I" "SchemaRecords") ∈ lw_tbl := List.mem_append_right _ (List.mem_of_getElem? (i := 425) (by decide +kernel))
theorem k_426 : (Jvm.Cond.laysFinal "SchemaRecords$Field" "SchemaRecords$Field" "number" "I") ∈ lw_tbl := List.mem_append_right _ (List.mem_of_getElem? (i := 426) (by decide +kernel))
theorem k_427 : (Jvm.Cond.soleField "SchemaRecords$Field" "number") ∈ lw_tbl := List.mem_append_right _ (List.mem_of_getElem? (i := 427) (by decide +kernel))
theorem k_428 : (Jvm.Cond.laysFinal "SchemaRecords$Field" "SchemaRecords$Field" "kind" "I") ∈ lw_tbl := List.mem_append_right _ (List.mem_of_getElem? (i := 428) (by decide +kernel))
theorem k_429 : (Jvm.Cond.soleField "SchemaRecords$Field" "kind") ∈ lw_tbl := List.mem_append_right _ (List.mem_of_getElem? (i := 429) (by decide +kernel))
theorem k_430 : (Jvm.Cond.laysFinal "SchemaRecords$Field" "SchemaRecords$Field" "type" "I") ∈ lw_tbl := List.mem_append_right _ (List.mem_of_getElem? (i := 430) (by decide +kernel))
theorem k_431 : (Jvm.Cond.soleField "SchemaRecords$Field" "type") ∈ lw_tbl := List.mem_append_right _ (List.mem_of_getElem? (i := 431) (by decide +kernel))
theorem k_432 : (Jvm.Cond.laysFinal "SchemaRecords$Field" "SchemaRecords$Field" "group" "I") ∈ lw_tbl := List.mem_append_right _ (List.mem_of_getElem? (i := 432) (by decide +kernel))
theorem k_433 : (Jvm.Cond.soleField "SchemaRecords$Field" "group") ∈ lw_tbl := List.mem_append_right _ (List.mem_of_getElem? (i := 433) (by decide +kernel))
theorem k_434 : (Jvm.Cond.laysFinal "SchemaRecords$Field" "SchemaRecords$Field" "name" "[B") ∈ lw_tbl := List.mem_append_right _ (List.mem_of_getElem? (i := 434) (by decide +kernel))
theorem k_435 : (Jvm.Cond.soleField "SchemaRecords$Field" "name") ∈ lw_tbl := List.mem_append_right _ (List.mem_of_getElem? (i := 435) (by decide +kernel))
theorem k_436 : (Jvm.Cond.lays "SchemaRecords$Field" "SchemaRecords$Field" "column" "I") ∈ lw_tbl := List.mem_append_right _ (List.mem_of_getElem? (i := 436) (by decide +kernel))
theorem k_437 : (Jvm.Cond.soleField "SchemaRecords$Field" "column") ∈ lw_tbl := List.mem_append_right _ (List.mem_of_getElem? (i := 437) (by decide +kernel))
theorem k_438 : (Jvm.Cond.lays "SchemaRecords$Field" "SchemaRecords$Field" "repetition" "I") ∈ lw_tbl := List.mem_append_right _ (List.mem_of_getElem? (i := 438) (by decide +kernel))
theorem k_439 : (Jvm.Cond.soleField "SchemaRecords$Field" "repetition") ∈ lw_tbl := List.mem_append_right _ (List.mem_of_getElem? (i := 439) (by decide +kernel))
theorem k_440 : (Jvm.Cond.lays "SchemaRecords$Field" "SchemaRecords$Field" "definition" "I") ∈ lw_tbl := List.mem_append_right _ (List.mem_of_getElem? (i := 440) (by decide +kernel))
theorem k_441 : (Jvm.Cond.soleField "SchemaRecords$Field" "definition") ∈ lw_tbl := List.mem_append_right _ (List.mem_of_getElem? (i := 441) (by decide +kernel))
theorem k_442 : (Jvm.Cond.lays "SchemaRecords$Field" "SchemaRecords$Field" "requiredInside" "I") ∈ lw_tbl := List.mem_append_right _ (List.mem_of_getElem? (i := 442) (by decide +kernel))
theorem k_443 : (Jvm.Cond.soleField "SchemaRecords$Field" "requiredInside") ∈ lw_tbl := List.mem_append_right _ (List.mem_of_getElem? (i := 443) (by decide +kernel))
theorem k_444 : (Jvm.Cond.superclass "SchemaRecords$Field" "java/lang/Object") ∈ lw_tbl := List.mem_append_right _ (List.mem_of_getElem? (i := 444) (by decide +kernel))
theorem k_445 : (Jvm.Cond.methodLink "SchemaRecords$Schema" (35 : Nat) y_Schema_setLevels) ∈ lw_tbl := List.mem_append_right _ (List.mem_of_getElem? (i := 445) (by decide +kernel))
theorem k_446 : (Jvm.Cond.privateMethod y_Schema_setLevels) ∈ lw_tbl := List.mem_append_right _ (List.mem_of_getElem? (i := 446) (by decide +kernel))
theorem k_447 : (Jvm.Cond.instanceMethod y_Schema_setLevels) ∈ lw_tbl := List.mem_append_right _ (List.mem_of_getElem? (i := 447) (by decide +kernel))
theorem k_448 : (Jvm.Cond.code y_Schema_setLevels prog_9_method_6_code (3 : Nat) (Option.none : Option Jvm.ClassFile.FieldType)) ∈ lw_tbl := List.mem_append_right _ (List.mem_of_getElem? (i := 448) (by decide +kernel))
theorem k_449 : (Jvm.Cond.methodLink "SchemaRecords$SchemaReader" (66 : Nat) y_SchemaReader_readGroup) ∈ lw_tbl := List.mem_append_right _ (List.mem_of_getElem? (i := 449) (by decide +kernel))
theorem k_450 : (Jvm.Cond.privateMethod y_SchemaReader_readGroup) ∈ lw_tbl := List.mem_append_right _ (List.mem_of_getElem? (i := 450) (by decide +kernel))
theorem k_451 : (Jvm.Cond.instanceMethod y_SchemaReader_readGroup) ∈ lw_tbl := List.mem_append_right _ (List.mem_of_getElem? (i := 451) (by decide +kernel))
theorem k_452 : (Jvm.Cond.code y_SchemaReader_readGroup prog_10_method_4_code (4 : Nat) (Option.some Jvm.ClassFile.FieldType.boolean)) ∈ lw_tbl := List.mem_append_right _ (List.mem_of_getElem? (i := 452) (by decide +kernel))
theorem k_453 : (Jvm.Cond.methodLink "SchemaRecords$SchemaReader" (69 : Nat) y_Scanner_takeSign) ∈ lw_tbl := List.mem_append_right _ (List.mem_of_getElem? (i := 453) (by decide +kernel))
theorem k_454 : (Jvm.Cond.instanceMethod y_Scanner_takeSign) ∈ lw_tbl := List.mem_append_right _ (List.mem_of_getElem? (i := 454) (by decide +kernel))
theorem k_455 : (Jvm.Cond.selects "SchemaRecords$Scanner" y_Scanner_takeSign y_Scanner_takeSign) ∈ lw_tbl := List.mem_append_right _ (List.mem_of_getElem? (i := 455) (by decide +kernel))
theorem k_456 : (Jvm.Cond.code y_Scanner_takeSign prog_8_method_10_code (2 : Nat) (Option.some Jvm.ClassFile.FieldType.boolean)) ∈ lw_tbl := List.mem_append_right _ (List.mem_of_getElem? (i := 456) (by decide +kernel))
theorem k_457 : (Jvm.Cond.methodLink "SchemaRecords$SchemaReader" (29 : Nat) y_Scanner_failHere) ∈ lw_tbl := List.mem_append_right _ (List.mem_of_getElem? (i := 457) (by decide +kernel))
theorem k_458 : (Jvm.Cond.methodLink "SchemaRecords" (66 : Nat) y_NodeRow_clear) ∈ lw_tbl := List.mem_append_right _ (List.mem_of_getElem? (i := 458) (by decide +kernel))
theorem k_459 : (Jvm.Cond.methodLink "SchemaRecordsLaw" (23 : Nat) y_X_count) ∈ lw_tbl := List.mem_append_right _ (List.mem_of_getElem? (i := 459) (by decide +kernel))
theorem k_460 : (Jvm.Cond.instanceMethod y_X_count) ∈ lw_tbl := List.mem_append_right _ (List.mem_of_getElem? (i := 460) (by decide +kernel))
theorem k_461 : (Jvm.Cond.selects "SchemaRecords" y_X_count y_X_count) ∈ lw_tbl := List.mem_append_right _ (List.mem_of_getElem? (i := 461) (by decide +kernel))
theorem k_462 : (Jvm.Cond.code y_X_count prog_1_method_4_code (2 : Nat) (Option.some Jvm.ClassFile.FieldType.int)) ∈ lw_tbl := List.mem_append_right _ (List.mem_of_getElem? (i := 462) (by decide +kernel))
theorem k_463 : (Jvm.Cond.methodLink "SchemaRecordsLaw" (27 : Nat) y_X_field) ∈ lw_tbl := List.mem_append_right _ (List.mem_of_getElem? (i := 463) (by decide +kernel))
theorem k_464 : (Jvm.Cond.instanceMethod y_X_field) ∈ lw_tbl := List.mem_append_right _ (List.mem_of_getElem? (i := 464) (by decide +kernel))
theorem k_465 : (Jvm.Cond.selects "SchemaRecords" y_X_field y_X_field) ∈ lw_tbl := List.mem_append_right _ (List.mem_of_getElem? (i := 465) (by decide +kernel))
theorem k_466 : (Jvm.Cond.code y_X_field prog_1_method_5_code (4 : Nat) (Option.some Jvm.ClassFile.FieldType.int)) ∈ lw_tbl := List.mem_append_right _ (List.mem_of_getElem? (i := 466) (by decide +kernel))
theorem k_467 : (Jvm.Cond.methodLink "SchemaRecords" (75 : Nat) y_Schema_fieldAt) ∈ lw_tbl := List.mem_append_right _ (List.mem_of_getElem? (i := 467) (by decide +kernel))
theorem k_468 : (Jvm.Cond.methodLink "SchemaRecords" (79 : Nat) y_Field_property) ∈ lw_tbl := List.mem_append_right _ (List.mem_of_getElem? (i := 468) (by decide +kernel))
theorem k_469 : (Jvm.Cond.instanceMethod y_Field_property) ∈ lw_tbl := List.mem_append_right _ (List.mem_of_getElem? (i := 469) (by decide +kernel))
theorem k_470 : (Jvm.Cond.selects "SchemaRecords$Field" y_Field_property y_Field_property) ∈ lw_tbl := List.mem_append_right _ (List.mem_of_getElem? (i := 470) (by decide +kernel))
theorem k_471 : (Jvm.Cond.code y_Field_property prog_3_method_2_code (2 : Nat) (Option.some Jvm.ClassFile.FieldType.int)) ∈ lw_tbl := List.mem_append_right _ (List.mem_of_getElem? (i := 471) (by decide +kernel))
theorem k_472 : (Jvm.Cond.methodLink "SchemaRecordsLaw" (32 : Nat) y_X_letter) ∈ lw_tbl := List.mem_append_right _ (List.mem_of_getElem? (i := 472) (by decide +kernel))
theorem k_473 : (Jvm.Cond.instanceMethod y_X_letter) ∈ lw_tbl := List.mem_append_right _ (List.mem_of_getElem? (i := 473) (by decide +kernel))
theorem k_474 : (Jvm.Cond.selects "SchemaRecords" y_X_letter y_X_letter) ∈ lw_tbl := List.mem_append_right _ (List.mem_of_getElem? (i := 474) (by decide +kernel))
theorem k_475 : (Jvm.Cond.code y_X_letter prog_1_method_6_code (4 : Nat) (Option.some Jvm.ClassFile.FieldType.int)) ∈ lw_tbl := List.mem_append_right _ (List.mem_of_getElem? (i := 475) (by decide +kernel))
theorem k_476 : (Jvm.Cond.methodLink "SchemaRecords" (89 : Nat) y_X_byteOf) ∈ lw_tbl := List.mem_append_right _ (List.mem_of_getElem? (i := 476) (by decide +kernel))
theorem k_477 : (Jvm.Cond.static y_X_byteOf) ∈ lw_tbl := List.mem_append_right _ (List.mem_of_getElem? (i := 477) (by decide +kernel))
theorem k_478 : (Jvm.Cond.code y_X_byteOf prog_1_method_20_code (2 : Nat) (Option.some Jvm.ClassFile.FieldType.int)) ∈ lw_tbl := List.mem_append_right _ (List.mem_of_getElem? (i := 478) (by decide +kernel))
theorem k_479 : (Jvm.Cond.methodLink "SchemaRecordsLaw" (36 : Nat) y_X_column) ∈ lw_tbl := List.mem_append_right _ (List.mem_of_getElem? (i := 479) (by decide +kernel))
theorem k_480 : (Jvm.Cond.instanceMethod y_X_column) ∈ lw_tbl := List.mem_append_right _ (List.mem_of_getElem? (i := 480) (by decide +kernel))
theorem k_481 : (Jvm.Cond.selects "SchemaRecords" y_X_column y_X_column) ∈ lw_tbl := List.mem_append_right _ (List.mem_of_getElem? (i := 481) (by decide +kernel))
theorem k_482 : (Jvm.Cond.code y_X_column prog_1_method_7_code (2 : Nat) (Option.some Jvm.ClassFile.FieldType.int)) ∈ lw_tbl := List.mem_append_right _ (List.mem_of_getElem? (i := 482) (by decide +kernel))
theorem k_483 : (Jvm.Cond.methodLink "SchemaRecords" (93 : Nat) y_Schema_fieldOfColumn) ∈ lw_tbl := List.mem_append_right _ (List.mem_of_getElem? (i := 483) (by decide +kernel))
theorem k_484 : (Jvm.Cond.instanceMethod y_Schema_fieldOfColumn) ∈ lw_tbl := List.mem_append_right _ (List.mem_of_getElem? (i := 484) (by decide +kernel))
theorem k_485 : (Jvm.Cond.selects "SchemaRecords$Schema" y_Schema_fieldOfColumn y_Schema_fieldOfColumn) ∈ lw_tbl := List.mem_append_right _ (List.mem_of_getElem? (i := 485) (by decide +kernel))
theorem k_486 : (Jvm.Cond.code y_Schema_fieldOfColumn prog_9_method_3_code (2 : Nat) (Option.some Jvm.ClassFile.FieldType.int)) ∈ lw_tbl := List.mem_append_right _ (List.mem_of_getElem? (i := 486) (by decide +kernel))
theorem k_487 : (Jvm.Cond.methodLink "SchemaRecordsLaw" (40 : Nat) y_X_find) ∈ lw_tbl := List.mem_append_right _ (List.mem_of_getElem? (i := 487) (by decide +kernel))
theorem k_488 : (Jvm.Cond.instanceMethod y_X_find) ∈ lw_tbl := List.mem_append_right _ (List.mem_of_getElem? (i := 488) (by decide +kernel))
theorem k_489 : (Jvm.Cond.selects "SchemaRecords" y_X_find y_X_find) ∈ lw_tbl := List.mem_append_right _ (List.mem_of_getElem? (i := 489) (by decide +kernel))
theorem k_490 : (Jvm.Cond.code y_X_find prog_1_method_8_code (4 : Nat) (Option.some Jvm.ClassFile.FieldType.int)) ∈ lw_tbl := List.mem_append_right _ (List.mem_of_getElem? (i := 490) (by decide +kernel))
theorem k_491 : (Jvm.Cond.methodLink "SchemaRecords" (96 : Nat) y_Schema_named) ∈ lw_tbl := List.mem_append_right _ (List.mem_of_getElem? (i := 491) (by decide +kernel))
theorem k_492 : (Jvm.Cond.methodLink "SchemaRecordsLaw" (44 : Nat) y_X_record) ∈ lw_tbl := List.mem_append_right _ (List.mem_of_getElem? (i := 492) (by decide +kernel))
theorem k_493 : (Jvm.Cond.instanceMethod y_X_record) ∈ lw_tbl := List.mem_append_right _ (List.mem_of_getElem? (i := 493) (by decide +kernel))
theorem k_494 : (Jvm.Cond.selects "SchemaRecords" y_X_record y_X_record) ∈ lw_tbl := List.mem_append_right _ (List.mem_of_getElem? (i := 494) (by decide +kernel))
theorem k_495 : (Jvm.Cond.code y_X_record prog_1_method_9_code (5 : Nat) (Option.some Jvm.ClassFile.FieldType.int)) ∈ lw_tbl := List.mem_append_right _ (List.mem_of_getElem? (i := 495) (by decide +kernel))
theorem k_496 : (Jvm.Cond.classLink "SchemaRecords" (100 : Nat) "SchemaRecords$RecordReader") ∈ lw_tbl := List.mem_append_right _ (List.mem_of_getElem? (i := 496) (by decide +kernel))
theorem k_497 : (Jvm.Cond.instantiable "SchemaRecords$RecordReader" (5 : Nat)) ∈ lw_tbl := List.mem_append_right _ (List.mem_of_getElem? (i := 497) (by decide +kernel))
theorem k_498 : (Jvm.Cond.methodLink "SchemaRecords" (102 : Nat) y_RecordReader_init) ∈ lw_tbl := List.mem_append_right _ (List.mem_of_getElem? (i := 498) (by decide +kernel))
theorem k_499 : (Jvm.Cond.instanceMethod y_RecordReader_init) ∈ lw_tbl := List.mem_append_right _ (List.mem_of_getElem? (i := 499) (by decide +kernel))
theorem k_500 : (Jvm.Cond.code y_RecordReader_init prog_6_method_1_code (4 : Nat) (Option.none : Option Jvm.ClassFile.FieldType)) ∈ lw_tbl := List.mem_append_right _ (List.mem_of_getElem? (i := 500) (by decide +kernel))
theorem k_501 : (Jvm.Cond.methodLink "SchemaRecords$RecordReader" (3 : Nat) y_JO_init) ∈ lw_tbl := List.mem_append_right _ (List.mem_of_getElem? (i := 501) (by decide +kernel))
theorem k_502 : (Jvm.Cond.fieldLink "SchemaRecords$RecordReader" (15 : Nat) "SchemaRecords$RecordReader" "text" "LSchemaRecords$Scanner;") ∈ lw_tbl := List.mem_append_right _ (List.mem_of_getElem? (i := 502) (by decide +kernel))
theorem k_503 : (Jvm.Cond.fieldLink "SchemaRecords$RecordReader" (19 : Nat) "SchemaRecords$RecordReader" "schema" "LSchemaRecords$Schema;") ∈ lw_tbl := List.mem_append_right _ (List.mem_of_getElem? (i := 503) (by decide +kernel))
theorem k_504 : (Jvm.Cond.fieldLink "SchemaRecords$RecordReader" (23 : Nat) "SchemaRecords$RecordReader" "nodeRow" "LSchemaRecords$NodeRow;") ∈ lw_tbl := List.mem_append_right _ (List.mem_of_getElem? (i := 504) (by decide +kernel))
theorem k_505 : (Jvm.Cond.fieldLink "SchemaRecords$RecordReader" (9 : Nat) "SchemaRecords$RecordReader" "textRow" "[B") ∈ lw_tbl := List.mem_append_right _ (List.mem_of_getElem? (i := 505) (by decide +kernel))
theorem k_506 : (Jvm.Cond.fieldLink "SchemaRecords$RecordReader" (105 : Nat) "SchemaRecords$RecordReader" "number" "J") ∈ lw_tbl := List.mem_append_right _ (List.mem_of_getElem? (i := 506) (by decide +kernel))
theorem k_507 : (Jvm.Cond.laysFinal "SchemaRecords$RecordReader" "SchemaRecords$RecordReader" "text" "LSchemaRecords$Scanner;") ∈ lw_tbl := List.mem_append_right _ (List.mem_of_getElem? (i := 507) (by decide +kernel))
theorem k_508 : (Jvm.Cond.soleField "SchemaRecords$RecordReader" "text") ∈ lw_tbl := List.mem_append_right _ (List.mem_of_getElem? (i := 508) (by decide +kernel))
theorem k_509 : (Jvm.Cond.laysFinal "SchemaRecords$RecordReader" "SchemaRecords$RecordReader" "schema" "LSchemaRecords$Schema;") ∈ lw_tbl := List.mem_append_right _ (List.mem_of_getElem? (i := 509) (by decide +kernel))
theorem k_510 : (Jvm.Cond.soleField "SchemaRecords$RecordReader" "schema") ∈ lw_tbl := List.mem_append_right _ (List.mem_of_getElem? (i := 510) (by decide +kernel))
theorem k_511 : (Jvm.Cond.laysFinal "SchemaRecords$RecordReader" "SchemaRecords$RecordReader" "nodeRow" "LSchemaRecords$NodeRow;") ∈ lw_tbl := List.mem_append_right _ (List.mem_of_getElem? (i := 511) (by decide +kernel))
theorem k_512 : (Jvm.Cond.soleField "SchemaRecords$RecordReader" "nodeRow") ∈ lw_tbl := List.mem_append_right _ (List.mem_of_getElem? (i := 512) (by decide +kernel))
theorem k_513 : (Jvm.Cond.laysFinal "SchemaRecords$RecordReader" "SchemaRecords$RecordReader" "textRow" "[B") ∈ lw_tbl := List.mem_append_right _ (List.mem_of_getElem? (i := 513) (by decide +kernel))
theorem k_514 : (Jvm.Cond.soleField "SchemaRecords$RecordReader" "textRow") ∈ lw_tbl := List.mem_append_right _ (List.mem_of_getElem? (i := 514) (by decide +kernel))
theorem k_515 : (Jvm.Cond.lays "SchemaRecords$RecordReader" "SchemaRecords$RecordReader" "number" "J") ∈ lw_tbl := List.mem_append_right _ (List.mem_of_getElem? (i := 515) (by decide +kernel))
theorem k_516 : (Jvm.Cond.soleField "SchemaRecords$RecordReader" "number") ∈ lw_tbl := List.mem_append_right _ (List.mem_of_getElem? (i := 516) (by decide +kernel))
theorem k_517 : (Jvm.Cond.superclass "SchemaRecords$RecordReader" "java/lang/Object") ∈ lw_tbl := List.mem_append_right _ (List.mem_of_getElem? (i := 517) (by decide +kernel))
theorem k_518 : (Jvm.Cond.methodLink "SchemaRecords" (105 : Nat) y_RecordReader_readMembers) ∈ lw_tbl := List.mem_append_right _ (List.mem_of_getElem? (i := 518) (by decide +kernel))
theorem k_519 : (Jvm.Cond.instanceMethod y_RecordReader_readMembers) ∈ lw_tbl := List.mem_append_right _ (List.mem_of_getElem? (i := 519) (by decide +kernel))
theorem k_520 : (Jvm.Cond.selects "SchemaRecords$RecordReader" y_RecordReader_readMembers y_RecordReader_readMembers) ∈ lw_tbl := List.mem_append_right _ (List.mem_of_getElem? (i := 520) (by decide +kernel))
theorem k_521 : (Jvm.Cond.code y_RecordReader_readMembers prog_6_method_2_code (8 : Nat) (Option.some Jvm.ClassFile.FieldType.boolean)) ∈ lw_tbl := List.mem_append_right _ (List.mem_of_getElem? (i := 521) (by decide +kernel))
theorem k_522 : (Jvm.Cond.methodLink "SchemaRecords$RecordReader" (27 : Nat) y_Scanner_failHere) ∈ lw_tbl := List.mem_append_right _ (List.mem_of_getElem? (i := 522) (by decide +kernel))
theorem k_523 : (Jvm.Cond.methodLink "SchemaRecords$RecordReader" (33 : Nat) y_Scanner_takeSign) ∈ lw_tbl := List.mem_append_right _ (List.mem_of_getElem? (i := 523) (by decide +kernel))
theorem k_524 : (Jvm.Cond.methodLink "SchemaRecords$RecordReader" (37 : Nat) y_Scanner_next) ∈ lw_tbl := List.mem_append_right _ (List.mem_of_getElem? (i := 524) (by decide +kernel))
theorem k_525 : (Jvm.Cond.methodLink "SchemaRecords$RecordReader" (41 : Nat) y_RecordReader_readName) ∈ lw_tbl := List.mem_append_right _ (List.mem_of_getElem? (i := 525) (by decide +kernel))
theorem k_526 : (Jvm.Cond.privateMethod y_RecordReader_readName) ∈ lw_tbl := List.mem_append_right _ (List.mem_of_getElem? (i := 526) (by decide +kernel))
theorem k_527 : (Jvm.Cond.instanceMethod y_RecordReader_readName) ∈ lw_tbl := List.mem_append_right _ (List.mem_of_getElem? (i := 527) (by decide +kernel))
theorem k_528 : (Jvm.Cond.code y_RecordReader_readName prog_6_method_3_code (4 : Nat) (Option.some (Jvm.ClassFile.FieldType.object "SchemaRecords$Field"))) ∈ lw_tbl := List.mem_append_right _ (List.mem_of_getElem? (i := 528) (by decide +kernel))
theorem k_529 : (Jvm.Cond.methodLink "SchemaRecords$RecordReader" (61 : Nat) y_Scanner_takeWord) ∈ lw_tbl := List.mem_append_right _ (List.mem_of_getElem? (i := 529) (by decide +kernel))
theorem k_530 : (Jvm.Cond.methodLink "SchemaRecords$RecordReader" (64 : Nat) y_Schema_meantFrom) ∈ lw_tbl := List.mem_append_right _ (List.mem_of_getElem? (i := 530) (by decide +kernel))
theorem k_531 : (Jvm.Cond.instanceMethod y_Schema_meantFrom) ∈ lw_tbl := List.mem_append_right _ (List.mem_of_getElem? (i := 531) (by decide +kernel))
theorem k_532 : (Jvm.Cond.selects "SchemaRecords$Schema" y_Schema_meantFrom y_Schema_meantFrom) ∈ lw_tbl := List.mem_append_right _ (List.mem_of_getElem? (i := 532) (by decide +kernel))
theorem k_533 : (Jvm.Cond.code y_Schema_meantFrom prog_9_method_9_code (6 : Nat) (Option.some Jvm.ClassFile.FieldType.int)) ∈ lw_tbl := List.mem_append_right _ (List.mem_of_getElem? (i := 533) (by decide +kernel))
theorem k_534 : (Jvm.Cond.methodLink "SchemaRecords$RecordReader" (68 : Nat) y_Schema_fieldAt) ∈ lw_tbl := List.mem_append_right _ (List.mem_of_getElem? (i := 534) (by decide +kernel))
theorem k_535 : (Jvm.Cond.methodLink "SchemaRecords$RecordReader" (72 : Nat) y_Scanner_failAtWord) ∈ lw_tbl := List.mem_append_right _ (List.mem_of_getElem? (i := 535) (by decide +kernel))
theorem k_536 : (Jvm.Cond.methodLink "SchemaRecords$RecordReader" (45 : Nat) y_RecordReader_readField) ∈ lw_tbl := List.mem_append_right _ (List.mem_of_getElem? (i := 536) (by decide +kernel))
theorem k_537 : (Jvm.Cond.privateMethod y_RecordReader_readField) ∈ lw_tbl := List.mem_append_right _ (List.mem_of_getElem? (i := 537) (by decide +kernel))
theorem k_538 : (Jvm.Cond.instanceMethod y_RecordReader_readField) ∈ lw_tbl := List.mem_append_right _ (List.mem_of_getElem? (i := 538) (by decide +kernel))
theorem k_539 : (Jvm.Cond.code y_RecordReader_readField prog_6_method_4_code (6 : Nat) (Option.some Jvm.ClassFile.FieldType.boolean)) ∈ lw_tbl := List.mem_append_right _ (List.mem_of_getElem? (i := 539) (by decide +kernel))
theorem k_540 : (Jvm.Cond.methodLink "SchemaRecords$RecordReader" (78 : Nat) y_RecordReader_readValue) ∈ lw_tbl := List.mem_append_right _ (List.mem_of_getElem? (i := 540) (by decide +kernel))
theorem k_541 : (Jvm.Cond.privateMethod y_RecordReader_readValue) ∈ lw_tbl := List.mem_append_right _ (List.mem_of_getElem? (i := 541) (by decide +kernel))
theorem k_542 : (Jvm.Cond.instanceMethod y_RecordReader_readValue) ∈ lw_tbl := List.mem_append_right _ (List.mem_of_getElem? (i := 542) (by decide +kernel))
theorem k_543 : (Jvm.Cond.code y_RecordReader_readValue prog_6_method_5_code (6 : Nat) (Option.some Jvm.ClassFile.FieldType.boolean)) ∈ lw_tbl := List.mem_append_right _ (List.mem_of_getElem? (i := 543) (by decide +kernel))
theorem k_544 : (Jvm.Cond.methodLink "SchemaRecords$RecordReader" (87 : Nat) y_RecordReader_readBool) ∈ lw_tbl := List.mem_append_right _ (List.mem_of_getElem? (i := 544) (by decide +kernel))
theorem k_545 : (Jvm.Cond.privateMethod y_RecordReader_readBool) ∈ lw_tbl := List.mem_append_right _ (List.mem_of_getElem? (i := 545) (by decide +kernel))
theorem k_546 : (Jvm.Cond.instanceMethod y_RecordReader_readBool) ∈ lw_tbl := List.mem_append_right _ (List.mem_of_getElem? (i := 546) (by decide +kernel))
theorem k_547 : (Jvm.Cond.code y_RecordReader_readBool prog_6_method_7_code (1 : Nat) (Option.some Jvm.ClassFile.FieldType.boolean)) ∈ lw_tbl := List.mem_append_right _ (List.mem_of_getElem? (i := 547) (by decide +kernel))
theorem k_548 : (Jvm.Cond.stringRef "SchemaRecords$RecordReader" (133 : Nat) "true") ∈ lw_tbl := List.mem_append_right _ (List.mem_of_getElem? (i := 548) (by decide +kernel))
theorem k_549 : (Jvm.Cond.methodLink "SchemaRecords$RecordReader" (135 : Nat) y_Scanner_wordIs) ∈ lw_tbl := List.mem_append_right _ (List.mem_of_getElem? (i := 549) (by decide +kernel))
theorem k_550 : (Jvm.Cond.stringRef "SchemaRecords$RecordReader" (139 : Nat) "false") ∈ lw_tbl := List.mem_append_right _ (List.mem_of_getElem? (i := 550) (by decide +kernel))
theorem k_551 : (Jvm.Cond.fieldLinkNest "SchemaRecords$RecordReader" (90 : Nat) "SchemaRecords" "NO_BYTES" "[B" "SchemaRecords") ∈ lw_tbl := List.mem_append_right _ (List.mem_of_getElem? (i := 551) (by decide +kernel))
theorem k_552 : (Jvm.Cond.methodLink "SchemaRecords$RecordReader" (93 : Nat) y_RecordReader_keep) ∈ lw_tbl := List.mem_append_right _ (List.mem_of_getElem? (i := 552) (by decide +kernel))
theorem k_553 : (Jvm.Cond.privateMethod y_RecordReader_keep) ∈ lw_tbl := List.mem_append_right _ (List.mem_of_getElem? (i := 553) (by decide +kernel))
theorem k_554 : (Jvm.Cond.instanceMethod y_RecordReader_keep) ∈ lw_tbl := List.mem_append_right _ (List.mem_of_getElem? (i := 554) (by decide +kernel))
theorem k_555 : (Jvm.Cond.code y_RecordReader_keep prog_6_method_6_code (5 : Nat) (Option.some Jvm.ClassFile.FieldType.boolean)) ∈ lw_tbl := List.mem_append_right _ (List.mem_of_getElem? (i := 555) (by decide +kernel))
theorem k_556 : (Jvm.Cond.methodLink "SchemaRecords$RecordReader" (126 : Nat) y_NodeRow_append) ∈ lw_tbl := List.mem_append_right _ (List.mem_of_getElem? (i := 556) (by decide +kernel))
theorem k_557 : (Jvm.Cond.instanceMethod y_NodeRow_append) ∈ lw_tbl := List.mem_append_right _ (List.mem_of_getElem? (i := 557) (by decide +kernel))
theorem k_558 : (Jvm.Cond.selects "SchemaRecords$NodeRow" y_NodeRow_append y_NodeRow_append) ∈ lw_tbl := List.mem_append_right _ (List.mem_of_getElem? (i := 558) (by decide +kernel))
theorem k_559 : (Jvm.Cond.code y_NodeRow_append prog_5_method_4_code (7 : Nat) (Option.some Jvm.ClassFile.FieldType.int)) ∈ lw_tbl := List.mem_append_right _ (List.mem_of_getElem? (i := 559) (by decide +kernel))
theorem k_560 : (Jvm.Cond.methodLink "SchemaRecords$NodeRow" (34 : Nat) y_NodeRow_nodeAt) ∈ lw_tbl := List.mem_append_right _ (List.mem_of_getElem? (i := 560) (by decide +kernel))
theorem k_561 : (Jvm.Cond.instanceMethod y_NodeRow_nodeAt) ∈ lw_tbl := List.mem_append_right _ (List.mem_of_getElem? (i := 561) (by decide +kernel))
theorem k_562 : (Jvm.Cond.selects "SchemaRecords$NodeRow" y_NodeRow_nodeAt y_NodeRow_nodeAt) ∈ lw_tbl := List.mem_append_right _ (List.mem_of_getElem? (i := 562) (by decide +kernel))
theorem k_563 : (Jvm.Cond.code y_NodeRow_nodeAt prog_5_method_3_code (2 : Nat) (Option.some (Jvm.ClassFile.FieldType.object "SchemaRecords$Node"))) ∈ lw_tbl := List.mem_append_right _ (List.mem_of_getElem? (i := 563) (by decide +kernel))
theorem k_564 : (Jvm.Cond.methodLink "SchemaRecords$RecordReader" (130 : Nat) y_Scanner_fail) ∈ lw_tbl := List.mem_append_right _ (List.mem_of_getElem? (i := 564) (by decide +kernel))
theorem k_565 : (Jvm.Cond.constantLong "SchemaRecords$RecordReader" (97 : Nat) (-2147483648 : Int64)) ∈ lw_tbl := List.mem_append_right _ (List.mem_of_getElem? (i := 565) (by decide +kernel))
theorem k_566 : (Jvm.Cond.methodLink "SchemaRecords$RecordReader" (99 : Nat) y_RecordReader_readNumber) ∈ lw_tbl := List.mem_append_right _ (List.mem_of_getElem? (i := 566) (by decide +kernel))
theorem k_567 : (Jvm.Cond.privateMethod y_RecordReader_readNumber) ∈ lw_tbl := List.mem_append_right _ (List.mem_of_getElem? (i := 567) (by decide +kernel))
theorem k_568 : (Jvm.Cond.instanceMethod y_RecordReader_readNumber) ∈ lw_tbl := List.mem_append_right _ (List.mem_of_getElem? (i := 568) (by decide +kernel))
theorem k_569 : (Jvm.Cond.code y_RecordReader_readNumber prog_6_method_8_code (11 : Nat) (Option.some Jvm.ClassFile.FieldType.boolean)) ∈ lw_tbl := List.mem_append_right _ (List.mem_of_getElem? (i := 569) (by decide +kernel))
theorem k_570 : (Jvm.Cond.methodLink "SchemaRecords$RecordReader" (141 : Nat) y_Scanner_here) ∈ lw_tbl := List.mem_append_right _ (List.mem_of_getElem? (i := 570) (by decide +kernel))
theorem k_571 : (Jvm.Cond.methodLink "SchemaRecords$RecordReader" (144 : Nat) y_Scanner_step) ∈ lw_tbl := List.mem_append_right _ (List.mem_of_getElem? (i := 571) (by decide +kernel))
theorem k_572 : (Jvm.Cond.instanceMethod y_Scanner_step) ∈ lw_tbl := List.mem_append_right _ (List.mem_of_getElem? (i := 572) (by decide +kernel))
theorem k_573 : (Jvm.Cond.selects "SchemaRecords$Scanner" y_Scanner_step y_Scanner_step) ∈ lw_tbl := List.mem_append_right _ (List.mem_of_getElem? (i := 573) (by decide +kernel))
theorem k_574 : (Jvm.Cond.code y_Scanner_step prog_8_method_5_code (2 : Nat) (Option.none : Option Jvm.ClassFile.FieldType)) ∈ lw_tbl := List.mem_append_right _ (List.mem_of_getElem? (i := 574) (by decide +kernel))
theorem k_575 : (Jvm.Cond.methodLink "SchemaRecords$RecordReader" (148 : Nat) y_Scanner_isDigit) ∈ lw_tbl := List.mem_append_right _ (List.mem_of_getElem? (i := 575) (by decide +kernel))
theorem k_576 : (Jvm.Cond.methodLink "SchemaRecords$RecordReader" (151 : Nat) y_Scanner_byteAt) ∈ lw_tbl := List.mem_append_right _ (List.mem_of_getElem? (i := 576) (by decide +kernel))
theorem k_577 : (Jvm.Cond.constantLong "SchemaRecords$RecordReader" (155 : Nat) (10 : Int64)) ∈ lw_tbl := List.mem_append_right _ (List.mem_of_getElem? (i := 577) (by decide +kernel))
theorem k_578 : (Jvm.Cond.constantLong "SchemaRecords$RecordReader" (103 : Nat) (-9223372036854775808 : Int64)) ∈ lw_tbl := List.mem_append_right _ (List.mem_of_getElem? (i := 578) (by decide +kernel))
theorem k_579 : (Jvm.Cond.methodLink "SchemaRecords$RecordReader" (108 : Nat) y_RecordReader_readText) ∈ lw_tbl := List.mem_append_right _ (List.mem_of_getElem? (i := 579) (by decide +kernel))
theorem k_580 : (Jvm.Cond.privateMethod y_RecordReader_readText) ∈ lw_tbl := List.mem_append_right _ (List.mem_of_getElem? (i := 580) (by decide +kernel))
theorem k_581 : (Jvm.Cond.instanceMethod y_RecordReader_readText) ∈ lw_tbl := List.mem_append_right _ (List.mem_of_getElem? (i := 581) (by decide +kernel))
theorem k_582 : (Jvm.Cond.code y_RecordReader_readText prog_6_method_9_code (4 : Nat) (Option.some Jvm.ClassFile.FieldType.int)) ∈ lw_tbl := List.mem_append_right _ (List.mem_of_getElem? (i := 582) (by decide +kernel))
theorem k_583 : (Jvm.Cond.methodLink "SchemaRecords$RecordReader" (157 : Nat) y_RecordReader_readEscape) ∈ lw_tbl := List.mem_append_right _ (List.mem_of_getElem? (i := 583) (by decide +kernel))
theorem k_584 : (Jvm.Cond.privateMethod y_RecordReader_readEscape) ∈ lw_tbl := List.mem_append_right _ (List.mem_of_getElem? (i := 584) (by decide +kernel))
theorem k_585 : (Jvm.Cond.instanceMethod y_RecordReader_readEscape) ∈ lw_tbl := List.mem_append_right _ (List.mem_of_getElem? (i := 585) (by decide +kernel))
theorem k_586 : (Jvm.Cond.code y_RecordReader_readEscape prog_6_method_11_code (4 : Nat) (Option.some Jvm.ClassFile.FieldType.int)) ∈ lw_tbl := List.mem_append_right _ (List.mem_of_getElem? (i := 586) (by decide +kernel))
theorem k_587 : (Jvm.Cond.methodLink "SchemaRecords$RecordReader" (163 : Nat) y_RecordReader_failEscape) ∈ lw_tbl := List.mem_append_right _ (List.mem_of_getElem? (i := 587) (by decide +kernel))
theorem k_588 : (Jvm.Cond.privateMethod y_RecordReader_failEscape) ∈ lw_tbl := List.mem_append_right _ (List.mem_of_getElem? (i := 588) (by decide +kernel))
theorem k_589 : (Jvm.Cond.instanceMethod y_RecordReader_failEscape) ∈ lw_tbl := List.mem_append_right _ (List.mem_of_getElem? (i := 589) (by decide +kernel))
theorem k_590 : (Jvm.Cond.code y_RecordReader_failEscape prog_6_method_12_code (2 : Nat) (Option.some Jvm.ClassFile.FieldType.int)) ∈ lw_tbl := List.mem_append_right _ (List.mem_of_getElem? (i := 590) (by decide +kernel))
theorem k_591 : (Jvm.Cond.methodLink "SchemaRecords$RecordReader" (166 : Nat) y_RecordReader_hexDigit) ∈ lw_tbl := List.mem_append_right _ (List.mem_of_getElem? (i := 591) (by decide +kernel))
theorem k_592 : (Jvm.Cond.static y_RecordReader_hexDigit) ∈ lw_tbl := List.mem_append_right _ (List.mem_of_getElem? (i := 592) (by decide +kernel))
theorem k_593 : (Jvm.Cond.code y_RecordReader_hexDigit prog_6_method_13_code (1 : Nat) (Option.some Jvm.ClassFile.FieldType.int)) ∈ lw_tbl := List.mem_append_right _ (List.mem_of_getElem? (i := 593) (by decide +kernel))
theorem k_594 : (Jvm.Cond.methodLink "SchemaRecords$RecordReader" (160 : Nat) y_RecordReader_readPlain) ∈ lw_tbl := List.mem_append_right _ (List.mem_of_getElem? (i := 594) (by decide +kernel))
theorem k_595 : (Jvm.Cond.privateMethod y_RecordReader_readPlain) ∈ lw_tbl := List.mem_append_right _ (List.mem_of_getElem? (i := 595) (by decide +kernel))
theorem k_596 : (Jvm.Cond.instanceMethod y_RecordReader_readPlain) ∈ lw_tbl := List.mem_append_right _ (List.mem_of_getElem? (i := 596) (by decide +kernel))
theorem k_597 : (Jvm.Cond.code y_RecordReader_readPlain prog_6_method_10_code (2 : Nat) (Option.some Jvm.ClassFile.FieldType.int)) ∈ lw_tbl := List.mem_append_right _ (List.mem_of_getElem? (i := 597) (by decide +kernel))
theorem k_598 : (Jvm.Cond.methodLink "SchemaRecords$RecordReader" (111 : Nat) y_JA_copyOf) ∈ lw_tbl := List.mem_append_right _ (List.mem_of_getElem? (i := 598) (by decide +kernel))
theorem k_599 : (Jvm.Cond.static y_JA_copyOf) ∈ lw_tbl := List.mem_append_right _ (List.mem_of_getElem? (i := 599) (by decide +kernel))
theorem k_600 : (Jvm.Cond.code y_JA_copyOf prog_20_method_121_code (3 : Nat) (Option.some (Jvm.ClassFile.FieldType.array Jvm.ClassFile.FieldType.byte))) ∈ lw_tbl := List.mem_append_right _ (List.mem_of_getElem? (i := 600) (by decide +kernel))
theorem k_601 : (Jvm.Cond.methodLink "SchemaRecords$RecordReader" (122 : Nat) y_RecordReader_readMembers) ∈ lw_tbl := List.mem_append_right _ (List.mem_of_getElem? (i := 601) (by decide +kernel))
theorem k_602 : (Jvm.Cond.methodLink "SchemaRecords$RecordReader" (55 : Nat) y_Schema_hasRequiredFrom) ∈ lw_tbl := List.mem_append_right _ (List.mem_of_getElem? (i := 602) (by decide +kernel))
theorem k_603 : (Jvm.Cond.instanceMethod y_Schema_hasRequiredFrom) ∈ lw_tbl := List.mem_append_right _ (List.mem_of_getElem? (i := 603) (by decide +kernel))
theorem k_604 : (Jvm.Cond.selects "SchemaRecords$Schema" y_Schema_hasRequiredFrom y_Schema_hasRequiredFrom) ∈ lw_tbl := List.mem_append_right _ (List.mem_of_getElem? (i := 604) (by decide +kernel))
theorem k_605 : (Jvm.Cond.code y_Schema_hasRequiredFrom prog_9_method_10_code (5 : Nat) (Option.some Jvm.ClassFile.FieldType.boolean)) ∈ lw_tbl := List.mem_append_right _ (List.mem_of_getElem? (i := 605) (by decide +kernel))
theorem k_606 : (Jvm.Cond.methodLink "SchemaRecords" (109 : Nat) y_Scanner_takeEnd) ∈ lw_tbl := List.mem_append_right _ (List.mem_of_getElem? (i := 606) (by decide +kernel))
theorem k_607 : (Jvm.Cond.instanceMethod y_Scanner_takeEnd) ∈ lw_tbl := List.mem_append_right _ (List.mem_of_getElem? (i := 607) (by decide +kernel))
theorem k_608 : (Jvm.Cond.selects "SchemaRecords$Scanner" y_Scanner_takeEnd y_Scanner_takeEnd) ∈ lw_tbl := List.mem_append_right _ (List.mem_of_getElem? (i := 608) (by decide +kernel))
theorem k_609 : (Jvm.Cond.code y_Scanner_takeEnd prog_8_method_12_code (1 : Nat) (Option.some Jvm.ClassFile.FieldType.boolean)) ∈ lw_tbl := List.mem_append_right _ (List.mem_of_getElem? (i := 609) (by decide +kernel))
theorem k_610 : (Jvm.Cond.methodLink "SchemaRecordsLaw" (48 : Nat) y_X_begin) ∈ lw_tbl := List.mem_append_right _ (List.mem_of_getElem? (i := 610) (by decide +kernel))
theorem k_611 : (Jvm.Cond.instanceMethod y_X_begin) ∈ lw_tbl := List.mem_append_right _ (List.mem_of_getElem? (i := 611) (by decide +kernel))
theorem k_612 : (Jvm.Cond.selects "SchemaRecords" y_X_begin y_X_begin) ∈ lw_tbl := List.mem_append_right _ (List.mem_of_getElem? (i := 612) (by decide +kernel))
theorem k_613 : (Jvm.Cond.code y_X_begin prog_1_method_10_code (1 : Nat) (Option.none : Option Jvm.ClassFile.FieldType)) ∈ lw_tbl := List.mem_append_right _ (List.mem_of_getElem? (i := 613) (by decide +kernel))
theorem k_614 : (Jvm.Cond.methodLink "SchemaRecordsLaw" (54 : Nat) y_X_add) ∈ lw_tbl := List.mem_append_right _ (List.mem_of_getElem? (i := 614) (by decide +kernel))
theorem k_615 : (Jvm.Cond.instanceMethod y_X_add) ∈ lw_tbl := List.mem_append_right _ (List.mem_of_getElem? (i := 615) (by decide +kernel))
theorem k_616 : (Jvm.Cond.selects "SchemaRecords" y_X_add y_X_add) ∈ lw_tbl := List.mem_append_right _ (List.mem_of_getElem? (i := 616) (by decide +kernel))
theorem k_617 : (Jvm.Cond.code y_X_add prog_1_method_11_code (6 : Nat) (Option.some Jvm.ClassFile.FieldType.int)) ∈ lw_tbl := List.mem_append_right _ (List.mem_of_getElem? (i := 617) (by decide +kernel))
theorem k_618 : (Jvm.Cond.methodLink "SchemaRecords" (115 : Nat) y_Field_hasInRange) ∈ lw_tbl := List.mem_append_right _ (List.mem_of_getElem? (i := 618) (by decide +kernel))
theorem k_619 : (Jvm.Cond.instanceMethod y_Field_hasInRange) ∈ lw_tbl := List.mem_append_right _ (List.mem_of_getElem? (i := 619) (by decide +kernel))
theorem k_620 : (Jvm.Cond.selects "SchemaRecords$Field" y_Field_hasInRange y_Field_hasInRange) ∈ lw_tbl := List.mem_append_right _ (List.mem_of_getElem? (i := 620) (by decide +kernel))
theorem k_621 : (Jvm.Cond.code y_Field_hasInRange prog_3_method_4_code (3 : Nat) (Option.some Jvm.ClassFile.FieldType.boolean)) ∈ lw_tbl := List.mem_append_right _ (List.mem_of_getElem? (i := 621) (by decide +kernel))
theorem k_622 : (Jvm.Cond.methodLink "SchemaRecords" (119 : Nat) y_NodeRow_mayTake) ∈ lw_tbl := List.mem_append_right _ (List.mem_of_getElem? (i := 622) (by decide +kernel))
theorem k_623 : (Jvm.Cond.instanceMethod y_NodeRow_mayTake) ∈ lw_tbl := List.mem_append_right _ (List.mem_of_getElem? (i := 623) (by decide +kernel))
theorem k_624 : (Jvm.Cond.selects "SchemaRecords$NodeRow" y_NodeRow_mayTake y_NodeRow_mayTake) ∈ lw_tbl := List.mem_append_right _ (List.mem_of_getElem? (i := 624) (by decide +kernel))
theorem k_625 : (Jvm.Cond.code y_NodeRow_mayTake prog_5_method_5_code (4 : Nat) (Option.some Jvm.ClassFile.FieldType.boolean)) ∈ lw_tbl := List.mem_append_right _ (List.mem_of_getElem? (i := 625) (by decide +kernel))
theorem k_626 : (Jvm.Cond.methodLink "SchemaRecords$NodeRow" (61 : Nat) y_NodeRow_isOpen) ∈ lw_tbl := List.mem_append_right _ (List.mem_of_getElem? (i := 626) (by decide +kernel))
theorem k_627 : (Jvm.Cond.privateMethod y_NodeRow_isOpen) ∈ lw_tbl := List.mem_append_right _ (List.mem_of_getElem? (i := 627) (by decide +kernel))
theorem k_628 : (Jvm.Cond.instanceMethod y_NodeRow_isOpen) ∈ lw_tbl := List.mem_append_right _ (List.mem_of_getElem? (i := 628) (by decide +kernel))
theorem k_629 : (Jvm.Cond.code y_NodeRow_isOpen prog_5_method_6_code (5 : Nat) (Option.some Jvm.ClassFile.FieldType.boolean)) ∈ lw_tbl := List.mem_append_right _ (List.mem_of_getElem? (i := 629) (by decide +kernel))
theorem k_630 : (Jvm.Cond.methodLink "SchemaRecords" (123 : Nat) y_Field_kept) ∈ lw_tbl := List.mem_append_right _ (List.mem_of_getElem? (i := 630) (by decide +kernel))
theorem k_631 : (Jvm.Cond.instanceMethod y_Field_kept) ∈ lw_tbl := List.mem_append_right _ (List.mem_of_getElem? (i := 631) (by decide +kernel))
theorem k_632 : (Jvm.Cond.selects "SchemaRecords$Field" y_Field_kept y_Field_kept) ∈ lw_tbl := List.mem_append_right _ (List.mem_of_getElem? (i := 632) (by decide +kernel))
theorem k_633 : (Jvm.Cond.code y_Field_kept prog_3_method_5_code (3 : Nat) (Option.some Jvm.ClassFile.FieldType.long)) ∈ lw_tbl := List.mem_append_right _ (List.mem_of_getElem? (i := 633) (by decide +kernel))
theorem k_634 : (Jvm.Cond.fieldLink "SchemaRecords" (127 : Nat) "SchemaRecords" "NO_BYTES" "[B") ∈ lw_tbl := List.mem_append_right _ (List.mem_of_getElem? (i := 634) (by decide +kernel))
theorem k_635 : (Jvm.Cond.methodLink "SchemaRecords" (130 : Nat) y_NodeRow_append) ∈ lw_tbl := List.mem_append_right _ (List.mem_of_getElem? (i := 635) (by decide +kernel))
theorem k_636 : (Jvm.Cond.methodLink "SchemaRecordsLaw" (59 : Nat) y_X_addText) ∈ lw_tbl := List.mem_append_right _ (List.mem_of_getElem? (i := 636) (by decide +kernel))
theorem k_637 : (Jvm.Cond.instanceMethod y_X_addText) ∈ lw_tbl := List.mem_append_right _ (List.mem_of_getElem? (i := 637) (by decide +kernel))
theorem k_638 : (Jvm.Cond.selects "SchemaRecords" y_X_addText y_X_addText) ∈ lw_tbl := List.mem_append_right _ (List.mem_of_getElem? (i := 638) (by decide +kernel))
theorem k_639 : (Jvm.Cond.code y_X_addText prog_1_method_12_code (6 : Nat) (Option.some Jvm.ClassFile.FieldType.int)) ∈ lw_tbl := List.mem_append_right _ (List.mem_of_getElem? (i := 639) (by decide +kernel))
theorem k_640 : (Jvm.Cond.methodLink "SchemaRecords" (134 : Nat) y_Scanner_copy) ∈ lw_tbl := List.mem_append_right _ (List.mem_of_getElem? (i := 640) (by decide +kernel))
theorem k_641 : (Jvm.Cond.methodLink "SchemaRecordsLaw" (64 : Nat) y_X_nodes) ∈ lw_tbl := List.mem_append_right _ (List.mem_of_getElem? (i := 641) (by decide +kernel))
theorem k_642 : (Jvm.Cond.instanceMethod y_X_nodes) ∈ lw_tbl := List.mem_append_right _ (List.mem_of_getElem? (i := 642) (by decide +kernel))
theorem k_643 : (Jvm.Cond.selects "SchemaRecords" y_X_nodes y_X_nodes) ∈ lw_tbl := List.mem_append_right _ (List.mem_of_getElem? (i := 643) (by decide +kernel))
theorem k_644 : (Jvm.Cond.code y_X_nodes prog_1_method_13_code (1 : Nat) (Option.some Jvm.ClassFile.FieldType.int)) ∈ lw_tbl := List.mem_append_right _ (List.mem_of_getElem? (i := 644) (by decide +kernel))
theorem k_645 : (Jvm.Cond.methodLink "SchemaRecordsLaw" (69 : Nat) y_X_node) ∈ lw_tbl := List.mem_append_right _ (List.mem_of_getElem? (i := 645) (by decide +kernel))
theorem k_646 : (Jvm.Cond.instanceMethod y_X_node) ∈ lw_tbl := List.mem_append_right _ (List.mem_of_getElem? (i := 646) (by decide +kernel))
theorem k_647 : (Jvm.Cond.selects "SchemaRecords" y_X_node y_X_node) ∈ lw_tbl := List.mem_append_right _ (List.mem_of_getElem? (i := 647) (by decide +kernel))
theorem k_648 : (Jvm.Cond.code y_X_node prog_1_method_14_code (4 : Nat) (Option.some Jvm.ClassFile.FieldType.int)) ∈ lw_tbl := List.mem_append_right _ (List.mem_of_getElem? (i := 648) (by decide +kernel))
theorem k_649 : (Jvm.Cond.methodLink "SchemaRecords" (139 : Nat) y_NodeRow_nodeAt) ∈ lw_tbl := List.mem_append_right _ (List.mem_of_getElem? (i := 649) (by decide +kernel))
theorem k_650 : (Jvm.Cond.methodLink "SchemaRecords" (143 : Nat) y_Node_property) ∈ lw_tbl := List.mem_append_right _ (List.mem_of_getElem? (i := 650) (by decide +kernel))
theorem k_651 : (Jvm.Cond.instanceMethod y_Node_property) ∈ lw_tbl := List.mem_append_right _ (List.mem_of_getElem? (i := 651) (by decide +kernel))
theorem k_652 : (Jvm.Cond.selects "SchemaRecords$Node" y_Node_property y_Node_property) ∈ lw_tbl := List.mem_append_right _ (List.mem_of_getElem? (i := 652) (by decide +kernel))
theorem k_653 : (Jvm.Cond.code y_Node_property prog_4_method_2_code (2 : Nat) (Option.some Jvm.ClassFile.FieldType.int)) ∈ lw_tbl := List.mem_append_right _ (List.mem_of_getElem? (i := 653) (by decide +kernel))
theorem k_654 : (Jvm.Cond.methodLink "SchemaRecordsLaw" (73 : Nat) y_X_value) ∈ lw_tbl := List.mem_append_right _ (List.mem_of_getElem? (i := 654) (by decide +kernel))
theorem k_655 : (Jvm.Cond.instanceMethod y_X_value) ∈ lw_tbl := List.mem_append_right _ (List.mem_of_getElem? (i := 655) (by decide +kernel))
theorem k_656 : (Jvm.Cond.selects "SchemaRecords" y_X_value y_X_value) ∈ lw_tbl := List.mem_append_right _ (List.mem_of_getElem? (i := 656) (by decide +kernel))
theorem k_657 : (Jvm.Cond.code y_X_value prog_1_method_15_code (3 : Nat) (Option.some Jvm.ClassFile.FieldType.long)) ∈ lw_tbl := List.mem_append_right _ (List.mem_of_getElem? (i := 657) (by decide +kernel))
theorem k_658 : (Jvm.Cond.methodLink "SchemaRecordsLaw" (78 : Nat) y_X_textByte) ∈ lw_tbl := List.mem_append_right _ (List.mem_of_getElem? (i := 658) (by decide +kernel))
theorem k_659 : (Jvm.Cond.instanceMethod y_X_textByte) ∈ lw_tbl := List.mem_append_right _ (List.mem_of_getElem? (i := 659) (by decide +kernel))
theorem k_660 : (Jvm.Cond.selects "SchemaRecords" y_X_textByte y_X_textByte) ∈ lw_tbl := List.mem_append_right _ (List.mem_of_getElem? (i := 660) (by decide +kernel))
theorem k_661 : (Jvm.Cond.code y_X_textByte prog_1_method_16_code (4 : Nat) (Option.some Jvm.ClassFile.FieldType.int)) ∈ lw_tbl := List.mem_append_right _ (List.mem_of_getElem? (i := 661) (by decide +kernel))
theorem k_662 : (Jvm.Cond.methodLink "SchemaRecordsLaw" (82 : Nat) y_X_isWhole) ∈ lw_tbl := List.mem_append_right _ (List.mem_of_getElem? (i := 662) (by decide +kernel))
theorem k_663 : (Jvm.Cond.instanceMethod y_X_isWhole) ∈ lw_tbl := List.mem_append_right _ (List.mem_of_getElem? (i := 663) (by decide +kernel))
theorem k_664 : (Jvm.Cond.selects "SchemaRecords" y_X_isWhole y_X_isWhole) ∈ lw_tbl := List.mem_append_right _ (List.mem_of_getElem? (i := 664) (by decide +kernel))
theorem k_665 : (Jvm.Cond.code y_X_isWhole prog_1_method_17_code (1 : Nat) (Option.some Jvm.ClassFile.FieldType.boolean)) ∈ lw_tbl := List.mem_append_right _ (List.mem_of_getElem? (i := 665) (by decide +kernel))
theorem k_666 : (Jvm.Cond.methodLink "SchemaRecords" (153 : Nat) y_NodeRow_lacksNothing) ∈ lw_tbl := List.mem_append_right _ (List.mem_of_getElem? (i := 666) (by decide +kernel))
theorem k_667 : (Jvm.Cond.instanceMethod y_NodeRow_lacksNothing) ∈ lw_tbl := List.mem_append_right _ (List.mem_of_getElem? (i := 667) (by decide +kernel))
theorem k_668 : (Jvm.Cond.selects "SchemaRecords$NodeRow" y_NodeRow_lacksNothing y_NodeRow_lacksNothing) ∈ lw_tbl := List.mem_append_right _ (List.mem_of_getElem? (i := 668) (by decide +kernel))
theorem k_669 : (Jvm.Cond.code y_NodeRow_lacksNothing prog_5_method_7_code (4 : Nat) (Option.some Jvm.ClassFile.FieldType.boolean)) ∈ lw_tbl := List.mem_append_right _ (List.mem_of_getElem? (i := 669) (by decide +kernel))
theorem k_670 : (Jvm.Cond.methodLink "SchemaRecords$NodeRow" (68 : Nat) y_Schema_requiredOf) ∈ lw_tbl := List.mem_append_right _ (List.mem_of_getElem? (i := 670) (by decide +kernel))
theorem k_671 : (Jvm.Cond.instanceMethod y_Schema_requiredOf) ∈ lw_tbl := List.mem_append_right _ (List.mem_of_getElem? (i := 671) (by decide +kernel))
theorem k_672 : (Jvm.Cond.selects "SchemaRecords$Schema" y_Schema_requiredOf y_Schema_requiredOf) ∈ lw_tbl := List.mem_append_right _ (List.mem_of_getElem? (i := 672) (by decide +kernel))
theorem k_673 : (Jvm.Cond.code y_Schema_requiredOf prog_9_method_7_code (3 : Nat) (Option.some Jvm.ClassFile.FieldType.int)) ∈ lw_tbl := List.mem_append_right _ (List.mem_of_getElem? (i := 673) (by decide +kernel))
theorem k_674 : (Jvm.Cond.methodLink "SchemaRecordsLaw" (87 : Nat) y_X_write) ∈ lw_tbl := List.mem_append_right _ (List.mem_of_getElem? (i := 674) (by decide +kernel))
theorem k_675 : (Jvm.Cond.instanceMethod y_X_write) ∈ lw_tbl := List.mem_append_right _ (List.mem_of_getElem? (i := 675) (by decide +kernel))
theorem k_676 : (Jvm.Cond.selects "SchemaRecords" y_X_write y_X_write) ∈ lw_tbl := List.mem_append_right _ (List.mem_of_getElem? (i := 676) (by decide +kernel))
theorem k_677 : (Jvm.Cond.code y_X_write prog_1_method_18_code (1 : Nat) (Option.some Jvm.ClassFile.FieldType.int)) ∈ lw_tbl := List.mem_append_right _ (List.mem_of_getElem? (i := 677) (by decide +kernel))
theorem k_678 : (Jvm.Cond.methodLink "SchemaRecords" (157 : Nat) y_ByteRow_clear) ∈ lw_tbl := List.mem_append_right _ (List.mem_of_getElem? (i := 678) (by decide +kernel))
theorem k_679 : (Jvm.Cond.instanceMethod y_ByteRow_clear) ∈ lw_tbl := List.mem_append_right _ (List.mem_of_getElem? (i := 679) (by decide +kernel))
theorem k_680 : (Jvm.Cond.selects "SchemaRecords$ByteRow" y_ByteRow_clear y_ByteRow_clear) ∈ lw_tbl := List.mem_append_right _ (List.mem_of_getElem? (i := 680) (by decide +kernel))
theorem k_681 : (Jvm.Cond.code y_ByteRow_clear prog_2_method_2_code (1 : Nat) (Option.none : Option Jvm.ClassFile.FieldType)) ∈ lw_tbl := List.mem_append_right _ (List.mem_of_getElem? (i := 681) (by decide +kernel))
theorem k_682 : (Jvm.Cond.methodLink "SchemaRecords" (158 : Nat) y_X_isWhole) ∈ lw_tbl := List.mem_append_right _ (List.mem_of_getElem? (i := 682) (by decide +kernel))
theorem k_683 : (Jvm.Cond.classLink "SchemaRecords" (161 : Nat) "SchemaRecords$RecordWriter") ∈ lw_tbl := List.mem_append_right _ (List.mem_of_getElem? (i := 683) (by decide +kernel))
theorem k_684 : (Jvm.Cond.instantiable "SchemaRecords$RecordWriter" (3 : Nat)) ∈ lw_tbl := List.mem_append_right _ (List.mem_of_getElem? (i := 684) (by decide +kernel))
theorem k_685 : (Jvm.Cond.methodLink "SchemaRecords" (163 : Nat) y_RecordWriter_init) ∈ lw_tbl := List.mem_append_right _ (List.mem_of_getElem? (i := 685) (by decide +kernel))
theorem k_686 : (Jvm.Cond.instanceMethod y_RecordWriter_init) ∈ lw_tbl := List.mem_append_right _ (List.mem_of_getElem? (i := 686) (by decide +kernel))
theorem k_687 : (Jvm.Cond.code y_RecordWriter_init prog_7_method_1_code (4 : Nat) (Option.none : Option Jvm.ClassFile.FieldType)) ∈ lw_tbl := List.mem_append_right _ (List.mem_of_getElem? (i := 687) (by decide +kernel))
theorem k_688 : (Jvm.Cond.methodLink "SchemaRecords$RecordWriter" (3 : Nat) y_JO_init) ∈ lw_tbl := List.mem_append_right _ (List.mem_of_getElem? (i := 688) (by decide +kernel))
theorem k_689 : (Jvm.Cond.fieldLink "SchemaRecords$RecordWriter" (9 : Nat) "SchemaRecords$RecordWriter" "schema" "LSchemaRecords$Schema;") ∈ lw_tbl := List.mem_append_right _ (List.mem_of_getElem? (i := 689) (by decide +kernel))
theorem k_690 : (Jvm.Cond.fieldLink "SchemaRecords$RecordWriter" (15 : Nat) "SchemaRecords$RecordWriter" "nodeRow" "LSchemaRecords$NodeRow;") ∈ lw_tbl := List.mem_append_right _ (List.mem_of_getElem? (i := 690) (by decide +kernel))
theorem k_691 : (Jvm.Cond.fieldLink "SchemaRecords$RecordWriter" (19 : Nat) "SchemaRecords$RecordWriter" "out" "LSchemaRecords$ByteRow;") ∈ lw_tbl := List.mem_append_right _ (List.mem_of_getElem? (i := 691) (by decide +kernel))
theorem k_692 : (Jvm.Cond.laysFinal "SchemaRecords$RecordWriter" "SchemaRecords$RecordWriter" "schema" "LSchemaRecords$Schema;") ∈ lw_tbl := List.mem_append_right _ (List.mem_of_getElem? (i := 692) (by decide +kernel))
theorem k_693 : (Jvm.Cond.soleField "SchemaRecords$RecordWriter" "schema") ∈ lw_tbl := List.mem_append_right _ (List.mem_of_getElem? (i := 693) (by decide +kernel))
theorem k_694 : (Jvm.Cond.laysFinal "SchemaRecords$RecordWriter" "SchemaRecords$RecordWriter" "nodeRow" "LSchemaRecords$NodeRow;") ∈ lw_tbl := List.mem_append_right _ (List.mem_of_getElem? (i := 694) (by decide +kernel))
theorem k_695 : (Jvm.Cond.soleField "SchemaRecords$RecordWriter" "nodeRow") ∈ lw_tbl := List.mem_append_right _ (List.mem_of_getElem? (i := 695) (by decide +kernel))
theorem k_696 : (Jvm.Cond.laysFinal "SchemaRecords$RecordWriter" "SchemaRecords$RecordWriter" "out" "LSchemaRecords$ByteRow;") ∈ lw_tbl := List.mem_append_right _ (List.mem_of_getElem? (i := 696) (by decide +kernel))
theorem k_697 : (Jvm.Cond.soleField "SchemaRecords$RecordWriter" "out") ∈ lw_tbl := List.mem_append_right _ (List.mem_of_getElem? (i := 697) (by decide +kernel))
theorem k_698 : (Jvm.Cond.superclass "SchemaRecords$RecordWriter" "java/lang/Object") ∈ lw_tbl := List.mem_append_right _ (List.mem_of_getElem? (i := 698) (by decide +kernel))
theorem k_699 : (Jvm.Cond.methodLink "SchemaRecords" (166 : Nat) y_RecordWriter_putMembers) ∈ lw_tbl := List.mem_append_right _ (List.mem_of_getElem? (i := 699) (by decide +kernel))
theorem k_700 : (Jvm.Cond.instanceMethod y_RecordWriter_putMembers) ∈ lw_tbl := List.mem_append_right _ (List.mem_of_getElem? (i := 700) (by decide +kernel))
theorem k_701 : (Jvm.Cond.selects "SchemaRecords$RecordWriter" y_RecordWriter_putMembers y_RecordWriter_putMembers) ∈ lw_tbl := List.mem_append_right _ (List.mem_of_getElem? (i := 701) (by decide +kernel))
theorem k_702 : (Jvm.Cond.code y_RecordWriter_putMembers prog_7_method_2_code (9 : Nat) (Option.some Jvm.ClassFile.FieldType.int)) ∈ lw_tbl := List.mem_append_right _ (List.mem_of_getElem? (i := 702) (by decide +kernel))
theorem k_703 : (Jvm.Cond.methodLink "SchemaRecords$RecordWriter" (23 : Nat) y_NodeRow_nodeAt) ∈ lw_tbl := List.mem_append_right _ (List.mem_of_getElem? (i := 703) (by decide +kernel))
theorem k_704 : (Jvm.Cond.methodLink "SchemaRecords$RecordWriter" (29 : Nat) y_ByteRow_put) ∈ lw_tbl := List.mem_append_right _ (List.mem_of_getElem? (i := 704) (by decide +kernel))
theorem k_705 : (Jvm.Cond.instanceMethod y_ByteRow_put) ∈ lw_tbl := List.mem_append_right _ (List.mem_of_getElem? (i := 705) (by decide +kernel))
theorem k_706 : (Jvm.Cond.selects "SchemaRecords$ByteRow" y_ByteRow_put y_ByteRow_put) ∈ lw_tbl := List.mem_append_right _ (List.mem_of_getElem? (i := 706) (by decide +kernel))
theorem k_707 : (Jvm.Cond.code y_ByteRow_put prog_2_method_4_code (2 : Nat) (Option.none : Option Jvm.ClassFile.FieldType)) ∈ lw_tbl := List.mem_append_right _ (List.mem_of_getElem? (i := 707) (by decide +kernel))
theorem k_708 : (Jvm.Cond.constant "SchemaRecords$ByteRow" (19 : Nat) (262144 : Int32)) ∈ lw_tbl := List.mem_append_right _ (List.mem_of_getElem? (i := 708) (by decide +kernel))
theorem k_709 : (Jvm.Cond.methodLink "SchemaRecords$ByteRow" (20 : Nat) y_JA_copyOf) ∈ lw_tbl := List.mem_append_right _ (List.mem_of_getElem? (i := 709) (by decide +kernel))
theorem k_710 : (Jvm.Cond.methodLink "SchemaRecords$RecordWriter" (44 : Nat) y_Schema_fieldAt) ∈ lw_tbl := List.mem_append_right _ (List.mem_of_getElem? (i := 710) (by decide +kernel))
theorem k_711 : (Jvm.Cond.methodLink "SchemaRecords$RecordWriter" (50 : Nat) y_RecordWriter_putBetween) ∈ lw_tbl := List.mem_append_right _ (List.mem_of_getElem? (i := 711) (by decide +kernel))
theorem k_712 : (Jvm.Cond.privateMethod y_RecordWriter_putBetween) ∈ lw_tbl := List.mem_append_right _ (List.mem_of_getElem? (i := 712) (by decide +kernel))
theorem k_713 : (Jvm.Cond.instanceMethod y_RecordWriter_putBetween) ∈ lw_tbl := List.mem_append_right _ (List.mem_of_getElem? (i := 713) (by decide +kernel))
theorem k_714 : (Jvm.Cond.code y_RecordWriter_putBetween prog_7_method_3_code (3 : Nat) (Option.none : Option Jvm.ClassFile.FieldType)) ∈ lw_tbl := List.mem_append_right _ (List.mem_of_getElem? (i := 714) (by decide +kernel))
theorem k_715 : (Jvm.Cond.methodLink "SchemaRecords$RecordWriter" (67 : Nat) y_RecordWriter_putClosing) ∈ lw_tbl := List.mem_append_right _ (List.mem_of_getElem? (i := 715) (by decide +kernel))
theorem k_716 : (Jvm.Cond.privateMethod y_RecordWriter_putClosing) ∈ lw_tbl := List.mem_append_right _ (List.mem_of_getElem? (i := 716) (by decide +kernel))
theorem k_717 : (Jvm.Cond.instanceMethod y_RecordWriter_putClosing) ∈ lw_tbl := List.mem_append_right _ (List.mem_of_getElem? (i := 717) (by decide +kernel))
theorem k_718 : (Jvm.Cond.code y_RecordWriter_putClosing prog_7_method_4_code (2 : Nat) (Option.none : Option Jvm.ClassFile.FieldType)) ∈ lw_tbl := List.mem_append_right _ (List.mem_of_getElem? (i := 718) (by decide +kernel))
theorem k_719 : (Jvm.Cond.methodLink "SchemaRecords$RecordWriter" (78 : Nat) y_RecordWriter_putBytes) ∈ lw_tbl := List.mem_append_right _ (List.mem_of_getElem? (i := 719) (by decide +kernel))
theorem k_720 : (Jvm.Cond.privateMethod y_RecordWriter_putBytes) ∈ lw_tbl := List.mem_append_right _ (List.mem_of_getElem? (i := 720) (by decide +kernel))
theorem k_721 : (Jvm.Cond.instanceMethod y_RecordWriter_putBytes) ∈ lw_tbl := List.mem_append_right _ (List.mem_of_getElem? (i := 721) (by decide +kernel))
theorem k_722 : (Jvm.Cond.code y_RecordWriter_putBytes prog_7_method_6_code (3 : Nat) (Option.none : Option Jvm.ClassFile.FieldType)) ∈ lw_tbl := List.mem_append_right _ (List.mem_of_getElem? (i := 722) (by decide +kernel))
theorem k_723 : (Jvm.Cond.methodLink "SchemaRecords$RecordWriter" (59 : Nat) y_RecordWriter_putMembers) ∈ lw_tbl := List.mem_append_right _ (List.mem_of_getElem? (i := 723) (by decide +kernel))
theorem k_724 : (Jvm.Cond.methodLink "SchemaRecords$RecordWriter" (63 : Nat) y_RecordWriter_putLeaf) ∈ lw_tbl := List.mem_append_right _ (List.mem_of_getElem? (i := 724) (by decide +kernel))
theorem k_725 : (Jvm.Cond.privateMethod y_RecordWriter_putLeaf) ∈ lw_tbl := List.mem_append_right _ (List.mem_of_getElem? (i := 725) (by decide +kernel))
theorem k_726 : (Jvm.Cond.instanceMethod y_RecordWriter_putLeaf) ∈ lw_tbl := List.mem_append_right _ (List.mem_of_getElem? (i := 726) (by decide +kernel))
theorem k_727 : (Jvm.Cond.code y_RecordWriter_putLeaf prog_7_method_5_code (4 : Nat) (Option.some Jvm.ClassFile.FieldType.int)) ∈ lw_tbl := List.mem_append_right _ (List.mem_of_getElem? (i := 727) (by decide +kernel))
theorem k_728 : (Jvm.Cond.methodLink "SchemaRecords$RecordWriter" (88 : Nat) y_RecordWriter_putText) ∈ lw_tbl := List.mem_append_right _ (List.mem_of_getElem? (i := 728) (by decide +kernel))
theorem k_729 : (Jvm.Cond.privateMethod y_RecordWriter_putText) ∈ lw_tbl := List.mem_append_right _ (List.mem_of_getElem? (i := 729) (by decide +kernel))
theorem k_730 : (Jvm.Cond.instanceMethod y_RecordWriter_putText) ∈ lw_tbl := List.mem_append_right _ (List.mem_of_getElem? (i := 730) (by decide +kernel))
theorem k_731 : (Jvm.Cond.code y_RecordWriter_putText prog_7_method_8_code (3 : Nat) (Option.none : Option Jvm.ClassFile.FieldType)) ∈ lw_tbl := List.mem_append_right _ (List.mem_of_getElem? (i := 731) (by decide +kernel))
theorem k_732 : (Jvm.Cond.methodLink "SchemaRecords$RecordWriter" (116 : Nat) y_RecordWriter_putTextByte) ∈ lw_tbl := List.mem_append_right _ (List.mem_of_getElem? (i := 732) (by decide +kernel))
theorem k_733 : (Jvm.Cond.privateMethod y_RecordWriter_putTextByte) ∈ lw_tbl := List.mem_append_right _ (List.mem_of_getElem? (i := 733) (by decide +kernel))
theorem k_734 : (Jvm.Cond.instanceMethod y_RecordWriter_putTextByte) ∈ lw_tbl := List.mem_append_right _ (List.mem_of_getElem? (i := 734) (by decide +kernel))
theorem k_735 : (Jvm.Cond.code y_RecordWriter_putTextByte prog_7_method_9_code (2 : Nat) (Option.none : Option Jvm.ClassFile.FieldType)) ∈ lw_tbl := List.mem_append_right _ (List.mem_of_getElem? (i := 735) (by decide +kernel))
theorem k_736 : (Jvm.Cond.stringRef "SchemaRecords$RecordWriter" (119 : Nat) "\\x") ∈ lw_tbl := List.mem_append_right _ (List.mem_of_getElem? (i := 736) (by decide +kernel))
theorem k_737 : (Jvm.Cond.methodLink "SchemaRecords$RecordWriter" (98 : Nat) y_RecordWriter_putWord) ∈ lw_tbl := List.mem_append_right _ (List.mem_of_getElem? (i := 737) (by decide +kernel))
theorem k_738 : (Jvm.Cond.privateMethod y_RecordWriter_putWord) ∈ lw_tbl := List.mem_append_right _ (List.mem_of_getElem? (i := 738) (by decide +kernel))
theorem k_739 : (Jvm.Cond.instanceMethod y_RecordWriter_putWord) ∈ lw_tbl := List.mem_append_right _ (List.mem_of_getElem? (i := 739) (by decide +kernel))
theorem k_740 : (Jvm.Cond.code y_RecordWriter_putWord prog_7_method_7_code (3 : Nat) (Option.none : Option Jvm.ClassFile.FieldType)) ∈ lw_tbl := List.mem_append_right _ (List.mem_of_getElem? (i := 740) (by decide +kernel))
theorem k_741 : (Jvm.Cond.methodLink "SchemaRecords$RecordWriter" (106 : Nat) y_JS_length) ∈ lw_tbl := List.mem_append_right _ (List.mem_of_getElem? (i := 741) (by decide +kernel))
theorem k_742 : (Jvm.Cond.methodLink "SchemaRecords$RecordWriter" (112 : Nat) y_JS_charAt) ∈ lw_tbl := List.mem_append_right _ (List.mem_of_getElem? (i := 742) (by decide +kernel))
theorem k_743 : (Jvm.Cond.methodLink "SchemaRecords$RecordWriter" (121 : Nat) y_RecordWriter_hexSign) ∈ lw_tbl := List.mem_append_right _ (List.mem_of_getElem? (i := 743) (by decide +kernel))
theorem k_744 : (Jvm.Cond.static y_RecordWriter_hexSign) ∈ lw_tbl := List.mem_append_right _ (List.mem_of_getElem? (i := 744) (by decide +kernel))
theorem k_745 : (Jvm.Cond.code y_RecordWriter_hexSign prog_7_method_10_code (1 : Nat) (Option.some Jvm.ClassFile.FieldType.int)) ∈ lw_tbl := List.mem_append_right _ (List.mem_of_getElem? (i := 745) (by decide +kernel))
theorem k_746 : (Jvm.Cond.stringRef "SchemaRecords$RecordWriter" (94 : Nat) "true") ∈ lw_tbl := List.mem_append_right _ (List.mem_of_getElem? (i := 746) (by decide +kernel))
theorem k_747 : (Jvm.Cond.stringRef "SchemaRecords$RecordWriter" (96 : Nat) "false") ∈ lw_tbl := List.mem_append_right _ (List.mem_of_getElem? (i := 747) (by decide +kernel))
theorem k_748 : (Jvm.Cond.methodLink "SchemaRecords$RecordWriter" (102 : Nat) y_RecordWriter_putNumber) ∈ lw_tbl := List.mem_append_right _ (List.mem_of_getElem? (i := 748) (by decide +kernel))
theorem k_749 : (Jvm.Cond.privateMethod y_RecordWriter_putNumber) ∈ lw_tbl := List.mem_append_right _ (List.mem_of_getElem? (i := 749) (by decide +kernel))
theorem k_750 : (Jvm.Cond.instanceMethod y_RecordWriter_putNumber) ∈ lw_tbl := List.mem_append_right _ (List.mem_of_getElem? (i := 750) (by decide +kernel))
theorem k_751 : (Jvm.Cond.code y_RecordWriter_putNumber prog_7_method_11_code (8 : Nat) (Option.none : Option Jvm.ClassFile.FieldType)) ∈ lw_tbl := List.mem_append_right _ (List.mem_of_getElem? (i := 751) (by decide +kernel))
theorem k_752 : (Jvm.Cond.constantLong "SchemaRecords$RecordWriter" (125 : Nat) (-10 : Int64)) ∈ lw_tbl := List.mem_append_right _ (List.mem_of_getElem? (i := 752) (by decide +kernel))
theorem k_753 : (Jvm.Cond.constantLong "SchemaRecords$RecordWriter" (127 : Nat) (10 : Int64)) ∈ lw_tbl := List.mem_append_right _ (List.mem_of_getElem? (i := 753) (by decide +kernel))
theorem k_754 : (Jvm.Cond.methodLink "SchemaRecordsLaw" (91 : Nat) y_X_output) ∈ lw_tbl := List.mem_append_right _ (List.mem_of_getElem? (i := 754) (by decide +kernel))
theorem k_755 : (Jvm.Cond.instanceMethod y_X_output) ∈ lw_tbl := List.mem_append_right _ (List.mem_of_getElem? (i := 755) (by decide +kernel))
theorem k_756 : (Jvm.Cond.selects "SchemaRecords" y_X_output y_X_output) ∈ lw_tbl := List.mem_append_right _ (List.mem_of_getElem? (i := 756) (by decide +kernel))
theorem k_757 : (Jvm.Cond.code y_X_output prog_1_method_19_code (2 : Nat) (Option.some Jvm.ClassFile.FieldType.int)) ∈ lw_tbl := List.mem_append_right _ (List.mem_of_getElem? (i := 757) (by decide +kernel))
theorem k_758 : (Jvm.Cond.methodLink "SchemaRecords" (171 : Nat) y_ByteRow_byteAt) ∈ lw_tbl := List.mem_append_right _ (List.mem_of_getElem? (i := 758) (by decide +kernel))
theorem k_759 : (Jvm.Cond.instanceMethod y_ByteRow_byteAt) ∈ lw_tbl := List.mem_append_right _ (List.mem_of_getElem? (i := 759) (by decide +kernel))
theorem k_760 : (Jvm.Cond.selects "SchemaRecords$ByteRow" y_ByteRow_byteAt y_ByteRow_byteAt) ∈ lw_tbl := List.mem_append_right _ (List.mem_of_getElem? (i := 760) (by decide +kernel))
theorem k_761 : (Jvm.Cond.code y_ByteRow_byteAt prog_2_method_3_code (2 : Nat) (Option.some Jvm.ClassFile.FieldType.int)) ∈ lw_tbl := List.mem_append_right _ (List.mem_of_getElem? (i := 761) (by decide +kernel))
theorem k_762 : (Jvm.Cond.classLink "SchemaRecordsLaw" (10 : Nat) "SchemaRecordsModel") ∈ lw_tbl := List.mem_append_right _ (List.mem_of_getElem? (i := 762) (by decide +kernel))
theorem k_763 : (Jvm.Cond.instantiable "SchemaRecordsModel" (31 : Nat)) ∈ lw_tbl := List.mem_append_right _ (List.mem_of_getElem? (i := 763) (by decide +kernel))
theorem k_764 : (Jvm.Cond.methodLink "SchemaRecordsLaw" (12 : Nat) y_M_init) ∈ lw_tbl := List.mem_append_right _ (List.mem_of_getElem? (i := 764) (by decide +kernel))
theorem k_765 : (Jvm.Cond.instanceMethod y_M_init) ∈ lw_tbl := List.mem_append_right _ (List.mem_of_getElem? (i := 765) (by decide +kernel))
theorem k_766 : (Jvm.Cond.code y_M_init prog_13_method_1_code (1 : Nat) (Option.none : Option Jvm.ClassFile.FieldType)) ∈ lw_tbl := List.mem_append_right _ (List.mem_of_getElem? (i := 766) (by decide +kernel))
theorem k_767 : (Jvm.Cond.methodLink "SchemaRecordsModel" (1 : Nat) y_JO_init) ∈ lw_tbl := List.mem_append_right _ (List.mem_of_getElem? (i := 767) (by decide +kernel))
theorem k_768 : (Jvm.Cond.classLink "SchemaRecordsModel" (16 : Nat) "[[I") ∈ lw_tbl := List.mem_append_right _ (List.mem_of_getElem? (i := 768) (by decide +kernel))
theorem k_769 : (Jvm.Cond.arrayOver (Jvm.ClassFile.FieldType.array Jvm.ClassFile.FieldType.int)) ∈ lw_tbl := List.mem_append_right _ (List.mem_of_getElem? (i := 769) (by decide +kernel))
theorem k_770 : (Jvm.Cond.constant "SchemaRecordsModel" (71 : Nat) (160000 : Int32)) ∈ lw_tbl := List.mem_append_right _ (List.mem_of_getElem? (i := 770) (by decide +kernel))
theorem k_771 : (Jvm.Cond.fieldLink "SchemaRecordsModel" (75 : Nat) "SchemaRecordsModel" "code" "I") ∈ lw_tbl := List.mem_append_right _ (List.mem_of_getElem? (i := 771) (by decide +kernel))
theorem k_772 : (Jvm.Cond.fieldLink "SchemaRecordsModel" (7 : Nat) "SchemaRecordsModel" "tape" "[I") ∈ lw_tbl := List.mem_append_right _ (List.mem_of_getElem? (i := 772) (by decide +kernel))
theorem k_773 : (Jvm.Cond.fieldLink "SchemaRecordsModel" (13 : Nat) "SchemaRecordsModel" "text" "[I") ∈ lw_tbl := List.mem_append_right _ (List.mem_of_getElem? (i := 773) (by decide +kernel))
theorem k_774 : (Jvm.Cond.fieldLink "SchemaRecordsModel" (78 : Nat) "SchemaRecordsModel" "taped" "I") ∈ lw_tbl := List.mem_append_right _ (List.mem_of_getElem? (i := 774) (by decide +kernel))
theorem k_775 : (Jvm.Cond.fieldLink "SchemaRecordsModel" (81 : Nat) "SchemaRecordsModel" "size" "I") ∈ lw_tbl := List.mem_append_right _ (List.mem_of_getElem? (i := 775) (by decide +kernel))
theorem k_776 : (Jvm.Cond.fieldLink "SchemaRecordsModel" (18 : Nat) "SchemaRecordsModel" "rows" "[[I") ∈ lw_tbl := List.mem_append_right _ (List.mem_of_getElem? (i := 776) (by decide +kernel))
theorem k_777 : (Jvm.Cond.fieldLink "SchemaRecordsModel" (21 : Nat) "SchemaRecordsModel" "fresh" "[[I") ∈ lw_tbl := List.mem_append_right _ (List.mem_of_getElem? (i := 777) (by decide +kernel))
theorem k_778 : (Jvm.Cond.fieldLink "SchemaRecordsModel" (24 : Nat) "SchemaRecordsModel" "letters" "[I") ∈ lw_tbl := List.mem_append_right _ (List.mem_of_getElem? (i := 778) (by decide +kernel))
theorem k_779 : (Jvm.Cond.fieldLink "SchemaRecordsModel" (27 : Nat) "SchemaRecordsModel" "freshLetters" "[I") ∈ lw_tbl := List.mem_append_right _ (List.mem_of_getElem? (i := 779) (by decide +kernel))
theorem k_780 : (Jvm.Cond.fieldLink "SchemaRecordsModel" (153 : Nat) "SchemaRecordsModel" "fields" "I") ∈ lw_tbl := List.mem_append_right _ (List.mem_of_getElem? (i := 780) (by decide +kernel))
theorem k_781 : (Jvm.Cond.fieldLink "SchemaRecordsModel" (156 : Nat) "SchemaRecordsModel" "columns" "I") ∈ lw_tbl := List.mem_append_right _ (List.mem_of_getElem? (i := 781) (by decide +kernel))
theorem k_782 : (Jvm.Cond.fieldLink "SchemaRecordsModel" (137 : Nat) "SchemaRecordsModel" "freshFields" "I") ∈ lw_tbl := List.mem_append_right _ (List.mem_of_getElem? (i := 782) (by decide +kernel))
theorem k_783 : (Jvm.Cond.fieldLink "SchemaRecordsModel" (140 : Nat) "SchemaRecordsModel" "freshColumns" "I") ∈ lw_tbl := List.mem_append_right _ (List.mem_of_getElem? (i := 783) (by decide +kernel))
theorem k_784 : (Jvm.Cond.fieldLink "SchemaRecordsModel" (30 : Nat) "SchemaRecordsModel" "nodeField" "[I") ∈ lw_tbl := List.mem_append_right _ (List.mem_of_getElem? (i := 784) (by decide +kernel))
theorem k_785 : (Jvm.Cond.fieldLink "SchemaRecordsModel" (33 : Nat) "SchemaRecordsModel" "nodeParent" "[I") ∈ lw_tbl := List.mem_append_right _ (List.mem_of_getElem? (i := 785) (by decide +kernel))
theorem k_786 : (Jvm.Cond.fieldLink "SchemaRecordsModel" (36 : Nat) "SchemaRecordsModel" "nodeFrom" "[I") ∈ lw_tbl := List.mem_append_right _ (List.mem_of_getElem? (i := 786) (by decide +kernel))
theorem k_787 : (Jvm.Cond.fieldLink "SchemaRecordsModel" (39 : Nat) "SchemaRecordsModel" "nodeSize" "[I") ∈ lw_tbl := List.mem_append_right _ (List.mem_of_getElem? (i := 787) (by decide +kernel))
theorem k_788 : (Jvm.Cond.fieldLink "SchemaRecordsModel" (42 : Nat) "SchemaRecordsModel" "nodeValue" "[J") ∈ lw_tbl := List.mem_append_right _ (List.mem_of_getElem? (i := 788) (by decide +kernel))
theorem k_789 : (Jvm.Cond.fieldLink "SchemaRecordsModel" (46 : Nat) "SchemaRecordsModel" "nodes" "I") ∈ lw_tbl := List.mem_append_right _ (List.mem_of_getElem? (i := 789) (by decide +kernel))
theorem k_790 : (Jvm.Cond.fieldLink "SchemaRecordsModel" (173 : Nat) "SchemaRecordsModel" "said" "I") ∈ lw_tbl := List.mem_append_right _ (List.mem_of_getElem? (i := 790) (by decide +kernel))
theorem k_791 : (Jvm.Cond.fieldLink "SchemaRecordsModel" (50 : Nat) "SchemaRecordsModel" "texts" "[I") ∈ lw_tbl := List.mem_append_right _ (List.mem_of_getElem? (i := 791) (by decide +kernel))
theorem k_792 : (Jvm.Cond.fieldLink "SchemaRecordsModel" (53 : Nat) "SchemaRecordsModel" "oldField" "[I") ∈ lw_tbl := List.mem_append_right _ (List.mem_of_getElem? (i := 792) (by decide +kernel))
theorem k_793 : (Jvm.Cond.fieldLink "SchemaRecordsModel" (56 : Nat) "SchemaRecordsModel" "oldParent" "[I") ∈ lw_tbl := List.mem_append_right _ (List.mem_of_getElem? (i := 793) (by decide +kernel))
theorem k_794 : (Jvm.Cond.fieldLink "SchemaRecordsModel" (59 : Nat) "SchemaRecordsModel" "oldFrom" "[I") ∈ lw_tbl := List.mem_append_right _ (List.mem_of_getElem? (i := 794) (by decide +kernel))
theorem k_795 : (Jvm.Cond.fieldLink "SchemaRecordsModel" (62 : Nat) "SchemaRecordsModel" "oldSize" "[I") ∈ lw_tbl := List.mem_append_right _ (List.mem_of_getElem? (i := 795) (by decide +kernel))
theorem k_796 : (Jvm.Cond.fieldLink "SchemaRecordsModel" (65 : Nat) "SchemaRecordsModel" "oldValue" "[J") ∈ lw_tbl := List.mem_append_right _ (List.mem_of_getElem? (i := 796) (by decide +kernel))
theorem k_797 : (Jvm.Cond.fieldLink "SchemaRecordsModel" (68 : Nat) "SchemaRecordsModel" "oldTexts" "[I") ∈ lw_tbl := List.mem_append_right _ (List.mem_of_getElem? (i := 797) (by decide +kernel))
theorem k_798 : (Jvm.Cond.fieldLink "SchemaRecordsModel" (72 : Nat) "SchemaRecordsModel" "out" "[I") ∈ lw_tbl := List.mem_append_right _ (List.mem_of_getElem? (i := 798) (by decide +kernel))
theorem k_799 : (Jvm.Cond.fieldLink "SchemaRecordsModel" (235 : Nat) "SchemaRecordsModel" "outSize" "I") ∈ lw_tbl := List.mem_append_right _ (List.mem_of_getElem? (i := 799) (by decide +kernel))
theorem k_800 : (Jvm.Cond.fieldLink "SchemaRecordsModel" (84 : Nat) "SchemaRecordsModel" "at" "I") ∈ lw_tbl := List.mem_append_right _ (List.mem_of_getElem? (i := 800) (by decide +kernel))
theorem k_801 : (Jvm.Cond.fieldLink "SchemaRecordsModel" (87 : Nat) "SchemaRecordsModel" "ill" "I") ∈ lw_tbl := List.mem_append_right _ (List.mem_of_getElem? (i := 801) (by decide +kernel))
theorem k_802 : (Jvm.Cond.lays "SchemaRecordsModel" "SchemaRecordsModel" "code" "I") ∈ lw_tbl := List.mem_append_right _ (List.mem_of_getElem? (i := 802) (by decide +kernel))
theorem k_803 : (Jvm.Cond.soleField "SchemaRecordsModel" "code") ∈ lw_tbl := List.mem_append_right _ (List.mem_of_getElem? (i := 803) (by decide +kernel))
theorem k_804 : (Jvm.Cond.laysFinal "SchemaRecordsModel" "SchemaRecordsModel" "tape" "[I") ∈ lw_tbl := List.mem_append_right _ (List.mem_of_getElem? (i := 804) (by decide +kernel))
theorem k_805 : (Jvm.Cond.soleField "SchemaRecordsModel" "tape") ∈ lw_tbl := List.mem_append_right _ (List.mem_of_getElem? (i := 805) (by decide +kernel))
theorem k_806 : (Jvm.Cond.laysFinal "SchemaRecordsModel" "SchemaRecordsModel" "text" "[I") ∈ lw_tbl := List.mem_append_right _ (List.mem_of_getElem? (i := 806) (by decide +kernel))
theorem k_807 : (Jvm.Cond.soleField "SchemaRecordsModel" "text") ∈ lw_tbl := List.mem_append_right _ (List.mem_of_getElem? (i := 807) (by decide +kernel))
theorem k_808 : (Jvm.Cond.lays "SchemaRecordsModel" "SchemaRecordsModel" "taped" "I") ∈ lw_tbl := List.mem_append_right _ (List.mem_of_getElem? (i := 808) (by decide +kernel))
theorem k_809 : (Jvm.Cond.soleField "SchemaRecordsModel" "taped") ∈ lw_tbl := List.mem_append_right _ (List.mem_of_getElem? (i := 809) (by decide +kernel))
theorem k_810 : (Jvm.Cond.lays "SchemaRecordsModel" "SchemaRecordsModel" "size" "I") ∈ lw_tbl := List.mem_append_right _ (List.mem_of_getElem? (i := 810) (by decide +kernel))
theorem k_811 : (Jvm.Cond.soleField "SchemaRecordsModel" "size") ∈ lw_tbl := List.mem_append_right _ (List.mem_of_getElem? (i := 811) (by decide +kernel))
theorem k_812 : (Jvm.Cond.laysFinal "SchemaRecordsModel" "SchemaRecordsModel" "rows" "[[I") ∈ lw_tbl := List.mem_append_right _ (List.mem_of_getElem? (i := 812) (by decide +kernel))
theorem k_813 : (Jvm.Cond.soleField "SchemaRecordsModel" "rows") ∈ lw_tbl := List.mem_append_right _ (List.mem_of_getElem? (i := 813) (by decide +kernel))
theorem k_814 : (Jvm.Cond.laysFinal "SchemaRecordsModel" "SchemaRecordsModel" "fresh" "[[I") ∈ lw_tbl := List.mem_append_right _ (List.mem_of_getElem? (i := 814) (by decide +kernel))
theorem k_815 : (Jvm.Cond.soleField "SchemaRecordsModel" "fresh") ∈ lw_tbl := List.mem_append_right _ (List.mem_of_getElem? (i := 815) (by decide +kernel))
theorem k_816 : (Jvm.Cond.laysFinal "SchemaRecordsModel" "SchemaRecordsModel" "letters" "[I") ∈ lw_tbl := List.mem_append_right _ (List.mem_of_getElem? (i := 816) (by decide +kernel))
theorem k_817 : (Jvm.Cond.soleField "SchemaRecordsModel" "letters") ∈ lw_tbl := List.mem_append_right _ (List.mem_of_getElem? (i := 817) (by decide +kernel))
theorem k_818 : (Jvm.Cond.laysFinal "SchemaRecordsModel" "SchemaRecordsModel" "freshLetters" "[I") ∈ lw_tbl := List.mem_append_right _ (List.mem_of_getElem? (i := 818) (by decide +kernel))
theorem k_819 : (Jvm.Cond.soleField "SchemaRecordsModel" "freshLetters") ∈ lw_tbl := List.mem_append_right _ (List.mem_of_getElem? (i := 819) (by decide +kernel))
theorem k_820 : (Jvm.Cond.lays "SchemaRecordsModel" "SchemaRecordsModel" "fields" "I") ∈ lw_tbl := List.mem_append_right _ (List.mem_of_getElem? (i := 820) (by decide +kernel))
theorem k_821 : (Jvm.Cond.soleField "SchemaRecordsModel" "fields") ∈ lw_tbl := List.mem_append_right _ (List.mem_of_getElem? (i := 821) (by decide +kernel))
theorem k_822 : (Jvm.Cond.lays "SchemaRecordsModel" "SchemaRecordsModel" "columns" "I") ∈ lw_tbl := List.mem_append_right _ (List.mem_of_getElem? (i := 822) (by decide +kernel))
theorem k_823 : (Jvm.Cond.soleField "SchemaRecordsModel" "columns") ∈ lw_tbl := List.mem_append_right _ (List.mem_of_getElem? (i := 823) (by decide +kernel))
theorem k_824 : (Jvm.Cond.lays "SchemaRecordsModel" "SchemaRecordsModel" "freshFields" "I") ∈ lw_tbl := List.mem_append_right _ (List.mem_of_getElem? (i := 824) (by decide +kernel))
theorem k_825 : (Jvm.Cond.soleField "SchemaRecordsModel" "freshFields") ∈ lw_tbl := List.mem_append_right _ (List.mem_of_getElem? (i := 825) (by decide +kernel))
theorem k_826 : (Jvm.Cond.lays "SchemaRecordsModel" "SchemaRecordsModel" "freshColumns" "I") ∈ lw_tbl := List.mem_append_right _ (List.mem_of_getElem? (i := 826) (by decide +kernel))
theorem k_827 : (Jvm.Cond.soleField "SchemaRecordsModel" "freshColumns") ∈ lw_tbl := List.mem_append_right _ (List.mem_of_getElem? (i := 827) (by decide +kernel))
theorem k_828 : (Jvm.Cond.laysFinal "SchemaRecordsModel" "SchemaRecordsModel" "nodeField" "[I") ∈ lw_tbl := List.mem_append_right _ (List.mem_of_getElem? (i := 828) (by decide +kernel))
theorem k_829 : (Jvm.Cond.soleField "SchemaRecordsModel" "nodeField") ∈ lw_tbl := List.mem_append_right _ (List.mem_of_getElem? (i := 829) (by decide +kernel))
theorem k_830 : (Jvm.Cond.laysFinal "SchemaRecordsModel" "SchemaRecordsModel" "nodeParent" "[I") ∈ lw_tbl := List.mem_append_right _ (List.mem_of_getElem? (i := 830) (by decide +kernel))
theorem k_831 : (Jvm.Cond.soleField "SchemaRecordsModel" "nodeParent") ∈ lw_tbl := List.mem_append_right _ (List.mem_of_getElem? (i := 831) (by decide +kernel))
theorem k_832 : (Jvm.Cond.laysFinal "SchemaRecordsModel" "SchemaRecordsModel" "nodeFrom" "[I") ∈ lw_tbl := List.mem_append_right _ (List.mem_of_getElem? (i := 832) (by decide +kernel))
theorem k_833 : (Jvm.Cond.soleField "SchemaRecordsModel" "nodeFrom") ∈ lw_tbl := List.mem_append_right _ (List.mem_of_getElem? (i := 833) (by decide +kernel))
theorem k_834 : (Jvm.Cond.laysFinal "SchemaRecordsModel" "SchemaRecordsModel" "nodeSize" "[I") ∈ lw_tbl := List.mem_append_right _ (List.mem_of_getElem? (i := 834) (by decide +kernel))
theorem k_835 : (Jvm.Cond.soleField "SchemaRecordsModel" "nodeSize") ∈ lw_tbl := List.mem_append_right _ (List.mem_of_getElem? (i := 835) (by decide +kernel))
theorem k_836 : (Jvm.Cond.laysFinal "SchemaRecordsModel" "SchemaRecordsModel" "nodeValue" "[J") ∈ lw_tbl := List.mem_append_right _ (List.mem_of_getElem? (i := 836) (by decide +kernel))
theorem k_837 : (Jvm.Cond.soleField "SchemaRecordsModel" "nodeValue") ∈ lw_tbl := List.mem_append_right _ (List.mem_of_getElem? (i := 837) (by decide +kernel))
theorem k_838 : (Jvm.Cond.lays "SchemaRecordsModel" "SchemaRecordsModel" "nodes" "I") ∈ lw_tbl := List.mem_append_right _ (List.mem_of_getElem? (i := 838) (by decide +kernel))
theorem k_839 : (Jvm.Cond.soleField "SchemaRecordsModel" "nodes") ∈ lw_tbl := List.mem_append_right _ (List.mem_of_getElem? (i := 839) (by decide +kernel))
theorem k_840 : (Jvm.Cond.lays "SchemaRecordsModel" "SchemaRecordsModel" "said" "I") ∈ lw_tbl := List.mem_append_right _ (List.mem_of_getElem? (i := 840) (by decide +kernel))
theorem k_841 : (Jvm.Cond.soleField "SchemaRecordsModel" "said") ∈ lw_tbl := List.mem_append_right _ (List.mem_of_getElem? (i := 841) (by decide +kernel))
theorem k_842 : (Jvm.Cond.laysFinal "SchemaRecordsModel" "SchemaRecordsModel" "texts" "[I") ∈ lw_tbl := List.mem_append_right _ (List.mem_of_getElem? (i := 842) (by decide +kernel))
theorem k_843 : (Jvm.Cond.soleField "SchemaRecordsModel" "texts") ∈ lw_tbl := List.mem_append_right _ (List.mem_of_getElem? (i := 843) (by decide +kernel))
theorem k_844 : (Jvm.Cond.laysFinal "SchemaRecordsModel" "SchemaRecordsModel" "oldField" "[I") ∈ lw_tbl := List.mem_append_right _ (List.mem_of_getElem? (i := 844) (by decide +kernel))
theorem k_845 : (Jvm.Cond.soleField "SchemaRecordsModel" "oldField") ∈ lw_tbl := List.mem_append_right _ (List.mem_of_getElem? (i := 845) (by decide +kernel))
theorem k_846 : (Jvm.Cond.laysFinal "SchemaRecordsModel" "SchemaRecordsModel" "oldParent" "[I") ∈ lw_tbl := List.mem_append_right _ (List.mem_of_getElem? (i := 846) (by decide +kernel))
theorem k_847 : (Jvm.Cond.soleField "SchemaRecordsModel" "oldParent") ∈ lw_tbl := List.mem_append_right _ (List.mem_of_getElem? (i := 847) (by decide +kernel))
theorem k_848 : (Jvm.Cond.laysFinal "SchemaRecordsModel" "SchemaRecordsModel" "oldFrom" "[I") ∈ lw_tbl := List.mem_append_right _ (List.mem_of_getElem? (i := 848) (by decide +kernel))
theorem k_849 : (Jvm.Cond.soleField "SchemaRecordsModel" "oldFrom") ∈ lw_tbl := List.mem_append_right _ (List.mem_of_getElem? (i := 849) (by decide +kernel))
theorem k_850 : (Jvm.Cond.laysFinal "SchemaRecordsModel" "SchemaRecordsModel" "oldSize" "[I") ∈ lw_tbl := List.mem_append_right _ (List.mem_of_getElem? (i := 850) (by decide +kernel))
theorem k_851 : (Jvm.Cond.soleField "SchemaRecordsModel" "oldSize") ∈ lw_tbl := List.mem_append_right _ (List.mem_of_getElem? (i := 851) (by decide +kernel))
theorem k_852 : (Jvm.Cond.laysFinal "SchemaRecordsModel" "SchemaRecordsModel" "oldValue" "[J") ∈ lw_tbl := List.mem_append_right _ (List.mem_of_getElem? (i := 852) (by decide +kernel))
theorem k_853 : (Jvm.Cond.soleField "SchemaRecordsModel" "oldValue") ∈ lw_tbl := List.mem_append_right _ (List.mem_of_getElem? (i := 853) (by decide +kernel))
theorem k_854 : (Jvm.Cond.laysFinal "SchemaRecordsModel" "SchemaRecordsModel" "oldTexts" "[I") ∈ lw_tbl := List.mem_append_right _ (List.mem_of_getElem? (i := 854) (by decide +kernel))
theorem k_855 : (Jvm.Cond.soleField "SchemaRecordsModel" "oldTexts") ∈ lw_tbl := List.mem_append_right _ (List.mem_of_getElem? (i := 855) (by decide +kernel))
theorem k_856 : (Jvm.Cond.laysFinal "SchemaRecordsModel" "SchemaRecordsModel" "out" "[I") ∈ lw_tbl := List.mem_append_right _ (List.mem_of_getElem? (i := 856) (by decide +kernel))
theorem k_857 : (Jvm.Cond.soleField "SchemaRecordsModel" "out") ∈ lw_tbl := List.mem_append_right _ (List.mem_of_getElem? (i := 857) (by decide +kernel))
theorem k_858 : (Jvm.Cond.lays "SchemaRecordsModel" "SchemaRecordsModel" "outSize" "I") ∈ lw_tbl := List.mem_append_right _ (List.mem_of_getElem? (i := 858) (by decide +kernel))
theorem k_859 : (Jvm.Cond.soleField "SchemaRecordsModel" "outSize") ∈ lw_tbl := List.mem_append_right _ (List.mem_of_getElem? (i := 859) (by decide +kernel))
theorem k_860 : (Jvm.Cond.lays "SchemaRecordsModel" "SchemaRecordsModel" "at" "I") ∈ lw_tbl := List.mem_append_right _ (List.mem_of_getElem? (i := 860) (by decide +kernel))
theorem k_861 : (Jvm.Cond.soleField "SchemaRecordsModel" "at") ∈ lw_tbl := List.mem_append_right _ (List.mem_of_getElem? (i := 861) (by decide +kernel))
theorem k_862 : (Jvm.Cond.lays "SchemaRecordsModel" "SchemaRecordsModel" "ill" "I") ∈ lw_tbl := List.mem_append_right _ (List.mem_of_getElem? (i := 862) (by decide +kernel))
theorem k_863 : (Jvm.Cond.soleField "SchemaRecordsModel" "ill") ∈ lw_tbl := List.mem_append_right _ (List.mem_of_getElem? (i := 863) (by decide +kernel))
theorem k_864 : (Jvm.Cond.superclass "SchemaRecordsModel" "java/lang/Object") ∈ lw_tbl := List.mem_append_right _ (List.mem_of_getElem? (i := 864) (by decide +kernel))
theorem k_865 : (Jvm.Cond.arrayClass Jvm.ClassFile.FieldType.long) ∈ lw_tbl := List.mem_append_right _ (List.mem_of_getElem? (i := 865) (by decide +kernel))
theorem k_866 : (Jvm.Cond.methodLink "SchemaRecordsLaw" (17 : Nat) y_M_feed) ∈ lw_tbl := List.mem_append_right _ (List.mem_of_getElem? (i := 866) (by decide +kernel))
theorem k_867 : (Jvm.Cond.instanceMethod y_M_feed) ∈ lw_tbl := List.mem_append_right _ (List.mem_of_getElem? (i := 867) (by decide +kernel))
theorem k_868 : (Jvm.Cond.selects "SchemaRecordsModel" y_M_feed y_M_feed) ∈ lw_tbl := List.mem_append_right _ (List.mem_of_getElem? (i := 868) (by decide +kernel))
theorem k_869 : (Jvm.Cond.code y_M_feed prog_13_method_3_code (8 : Nat) (Option.some Jvm.ClassFile.FieldType.boolean)) ∈ lw_tbl := List.mem_append_right _ (List.mem_of_getElem? (i := 869) (by decide +kernel))
theorem k_870 : (Jvm.Cond.methodLink "SchemaRecordsLaw" (22 : Nat) y_M_schema) ∈ lw_tbl := List.mem_append_right _ (List.mem_of_getElem? (i := 870) (by decide +kernel))
theorem k_871 : (Jvm.Cond.instanceMethod y_M_schema) ∈ lw_tbl := List.mem_append_right _ (List.mem_of_getElem? (i := 871) (by decide +kernel))
theorem k_872 : (Jvm.Cond.selects "SchemaRecordsModel" y_M_schema y_M_schema) ∈ lw_tbl := List.mem_append_right _ (List.mem_of_getElem? (i := 872) (by decide +kernel))
theorem k_873 : (Jvm.Cond.code y_M_schema prog_13_method_16_code (4 : Nat) (Option.some Jvm.ClassFile.FieldType.int)) ∈ lw_tbl := List.mem_append_right _ (List.mem_of_getElem? (i := 873) (by decide +kernel))
theorem k_874 : (Jvm.Cond.methodLink "SchemaRecordsModel" (150 : Nat) y_M_takes) ∈ lw_tbl := List.mem_append_right _ (List.mem_of_getElem? (i := 874) (by decide +kernel))
theorem k_875 : (Jvm.Cond.privateMethod y_M_takes) ∈ lw_tbl := List.mem_append_right _ (List.mem_of_getElem? (i := 875) (by decide +kernel))
theorem k_876 : (Jvm.Cond.instanceMethod y_M_takes) ∈ lw_tbl := List.mem_append_right _ (List.mem_of_getElem? (i := 876) (by decide +kernel))
theorem k_877 : (Jvm.Cond.code y_M_takes prog_13_method_4_code (3 : Nat) (Option.some Jvm.ClassFile.FieldType.boolean)) ∈ lw_tbl := List.mem_append_right _ (List.mem_of_getElem? (i := 877) (by decide +kernel))
theorem k_878 : (Jvm.Cond.methodLink "SchemaRecordsModel" (146 : Nat) y_M_readField) ∈ lw_tbl := List.mem_append_right _ (List.mem_of_getElem? (i := 878) (by decide +kernel))
theorem k_879 : (Jvm.Cond.privateMethod y_M_readField) ∈ lw_tbl := List.mem_append_right _ (List.mem_of_getElem? (i := 879) (by decide +kernel))
theorem k_880 : (Jvm.Cond.instanceMethod y_M_readField) ∈ lw_tbl := List.mem_append_right _ (List.mem_of_getElem? (i := 880) (by decide +kernel))
theorem k_881 : (Jvm.Cond.code y_M_readField prog_13_method_15_code (10 : Nat) (Option.none : Option Jvm.ClassFile.FieldType)) ∈ lw_tbl := List.mem_append_right _ (List.mem_of_getElem? (i := 881) (by decide +kernel))
theorem k_882 : (Jvm.Cond.methodLink "SchemaRecordsModel" (108 : Nat) y_M_blanks) ∈ lw_tbl := List.mem_append_right _ (List.mem_of_getElem? (i := 882) (by decide +kernel))
theorem k_883 : (Jvm.Cond.privateMethod y_M_blanks) ∈ lw_tbl := List.mem_append_right _ (List.mem_of_getElem? (i := 883) (by decide +kernel))
theorem k_884 : (Jvm.Cond.instanceMethod y_M_blanks) ∈ lw_tbl := List.mem_append_right _ (List.mem_of_getElem? (i := 884) (by decide +kernel))
theorem k_885 : (Jvm.Cond.code y_M_blanks prog_13_method_7_code (1 : Nat) (Option.none : Option Jvm.ClassFile.FieldType)) ∈ lw_tbl := List.mem_append_right _ (List.mem_of_getElem? (i := 885) (by decide +kernel))
theorem k_886 : (Jvm.Cond.methodLink "SchemaRecordsModel" (90 : Nat) y_M_look) ∈ lw_tbl := List.mem_append_right _ (List.mem_of_getElem? (i := 886) (by decide +kernel))
theorem k_887 : (Jvm.Cond.privateMethod y_M_look) ∈ lw_tbl := List.mem_append_right _ (List.mem_of_getElem? (i := 887) (by decide +kernel))
theorem k_888 : (Jvm.Cond.instanceMethod y_M_look) ∈ lw_tbl := List.mem_append_right _ (List.mem_of_getElem? (i := 888) (by decide +kernel))
theorem k_889 : (Jvm.Cond.code y_M_look prog_13_method_6_code (1 : Nat) (Option.some Jvm.ClassFile.FieldType.int)) ∈ lw_tbl := List.mem_append_right _ (List.mem_of_getElem? (i := 889) (by decide +kernel))
theorem k_890 : (Jvm.Cond.constantLong "SchemaRecordsModel" (118 : Nat) (8243119442065778020 : Int64)) ∈ lw_tbl := List.mem_append_right _ (List.mem_of_getElem? (i := 890) (by decide +kernel))
theorem k_891 : (Jvm.Cond.methodLink "SchemaRecordsModel" (120 : Nat) y_M_takesWord) ∈ lw_tbl := List.mem_append_right _ (List.mem_of_getElem? (i := 891) (by decide +kernel))
theorem k_892 : (Jvm.Cond.privateMethod y_M_takesWord) ∈ lw_tbl := List.mem_append_right _ (List.mem_of_getElem? (i := 892) (by decide +kernel))
theorem k_893 : (Jvm.Cond.instanceMethod y_M_takesWord) ∈ lw_tbl := List.mem_append_right _ (List.mem_of_getElem? (i := 893) (by decide +kernel))
theorem k_894 : (Jvm.Cond.code y_M_takesWord prog_13_method_12_code (3 : Nat) (Option.some Jvm.ClassFile.FieldType.boolean)) ∈ lw_tbl := List.mem_append_right _ (List.mem_of_getElem? (i := 894) (by decide +kernel))
theorem k_895 : (Jvm.Cond.methodLink "SchemaRecordsModel" (104 : Nat) y_M_isWord) ∈ lw_tbl := List.mem_append_right _ (List.mem_of_getElem? (i := 895) (by decide +kernel))
theorem k_896 : (Jvm.Cond.privateMethod y_M_isWord) ∈ lw_tbl := List.mem_append_right _ (List.mem_of_getElem? (i := 896) (by decide +kernel))
theorem k_897 : (Jvm.Cond.instanceMethod y_M_isWord) ∈ lw_tbl := List.mem_append_right _ (List.mem_of_getElem? (i := 897) (by decide +kernel))
theorem k_898 : (Jvm.Cond.code y_M_isWord prog_13_method_11_code (7 : Nat) (Option.some Jvm.ClassFile.FieldType.boolean)) ∈ lw_tbl := List.mem_append_right _ (List.mem_of_getElem? (i := 898) (by decide +kernel))
theorem k_899 : (Jvm.Cond.methodLink "SchemaRecordsModel" (101 : Nat) y_M_word) ∈ lw_tbl := List.mem_append_right _ (List.mem_of_getElem? (i := 899) (by decide +kernel))
theorem k_900 : (Jvm.Cond.privateMethod y_M_word) ∈ lw_tbl := List.mem_append_right _ (List.mem_of_getElem? (i := 900) (by decide +kernel))
theorem k_901 : (Jvm.Cond.instanceMethod y_M_word) ∈ lw_tbl := List.mem_append_right _ (List.mem_of_getElem? (i := 901) (by decide +kernel))
theorem k_902 : (Jvm.Cond.code y_M_word prog_13_method_10_code (2 : Nat) (Option.some Jvm.ClassFile.FieldType.int)) ∈ lw_tbl := List.mem_append_right _ (List.mem_of_getElem? (i := 902) (by decide +kernel))
theorem k_903 : (Jvm.Cond.methodLink "SchemaRecordsModel" (94 : Nat) y_M_isLetter) ∈ lw_tbl := List.mem_append_right _ (List.mem_of_getElem? (i := 903) (by decide +kernel))
theorem k_904 : (Jvm.Cond.static y_M_isLetter) ∈ lw_tbl := List.mem_append_right _ (List.mem_of_getElem? (i := 904) (by decide +kernel))
theorem k_905 : (Jvm.Cond.code y_M_isLetter prog_13_method_8_code (1 : Nat) (Option.some Jvm.ClassFile.FieldType.boolean)) ∈ lw_tbl := List.mem_append_right _ (List.mem_of_getElem? (i := 905) (by decide +kernel))
theorem k_906 : (Jvm.Cond.methodLink "SchemaRecordsModel" (98 : Nat) y_M_isDigit) ∈ lw_tbl := List.mem_append_right _ (List.mem_of_getElem? (i := 906) (by decide +kernel))
theorem k_907 : (Jvm.Cond.static y_M_isDigit) ∈ lw_tbl := List.mem_append_right _ (List.mem_of_getElem? (i := 907) (by decide +kernel))
theorem k_908 : (Jvm.Cond.code y_M_isDigit prog_13_method_9_code (1 : Nat) (Option.some Jvm.ClassFile.FieldType.boolean)) ∈ lw_tbl := List.mem_append_right _ (List.mem_of_getElem? (i := 908) (by decide +kernel))
theorem k_909 : (Jvm.Cond.constantLong "SchemaRecordsModel" (123 : Nat) (8030046131791487340 : Int64)) ∈ lw_tbl := List.mem_append_right _ (List.mem_of_getElem? (i := 909) (by decide +kernel))
theorem k_910 : (Jvm.Cond.constantLong "SchemaRecordsModel" (125 : Nat) (8243118273700586852 : Int64)) ∈ lw_tbl := List.mem_append_right _ (List.mem_of_getElem? (i := 910) (by decide +kernel))
theorem k_911 : (Jvm.Cond.methodLink "SchemaRecordsModel" (114 : Nat) y_M_fail) ∈ lw_tbl := List.mem_append_right _ (List.mem_of_getElem? (i := 911) (by decide +kernel))
theorem k_912 : (Jvm.Cond.privateMethod y_M_fail) ∈ lw_tbl := List.mem_append_right _ (List.mem_of_getElem? (i := 912) (by decide +kernel))
theorem k_913 : (Jvm.Cond.instanceMethod y_M_fail) ∈ lw_tbl := List.mem_append_right _ (List.mem_of_getElem? (i := 913) (by decide +kernel))
theorem k_914 : (Jvm.Cond.code y_M_fail prog_13_method_5_code (2 : Nat) (Option.none : Option Jvm.ClassFile.FieldType)) ∈ lw_tbl := List.mem_append_right _ (List.mem_of_getElem? (i := 914) (by decide +kernel))
theorem k_915 : (Jvm.Cond.constantLong "SchemaRecordsModel" (127 : Nat) (1651470188 : Int64)) ∈ lw_tbl := List.mem_append_right _ (List.mem_of_getElem? (i := 915) (by decide +kernel))
theorem k_916 : (Jvm.Cond.constantLong "SchemaRecordsModel" (129 : Nat) (6909556 : Int64)) ∈ lw_tbl := List.mem_append_right _ (List.mem_of_getElem? (i := 916) (by decide +kernel))
theorem k_917 : (Jvm.Cond.constantLong "SchemaRecordsModel" (131 : Nat) (1819242087 : Int64)) ∈ lw_tbl := List.mem_append_right _ (List.mem_of_getElem? (i := 917) (by decide +kernel))
theorem k_918 : (Jvm.Cond.constantLong "SchemaRecordsModel" (133 : Nat) (1952807028 : Int64)) ∈ lw_tbl := List.mem_append_right _ (List.mem_of_getElem? (i := 918) (by decide +kernel))
theorem k_919 : (Jvm.Cond.constantLong "SchemaRecordsModel" (135 : Nat) (444301538672 : Int64)) ∈ lw_tbl := List.mem_append_right _ (List.mem_of_getElem? (i := 919) (by decide +kernel))
theorem k_920 : (Jvm.Cond.methodLink "SchemaRecordsModel" (143 : Nat) y_M_wantSign) ∈ lw_tbl := List.mem_append_right _ (List.mem_of_getElem? (i := 920) (by decide +kernel))
theorem k_921 : (Jvm.Cond.privateMethod y_M_wantSign) ∈ lw_tbl := List.mem_append_right _ (List.mem_of_getElem? (i := 921) (by decide +kernel))
theorem k_922 : (Jvm.Cond.instanceMethod y_M_wantSign) ∈ lw_tbl := List.mem_append_right _ (List.mem_of_getElem? (i := 922) (by decide +kernel))
theorem k_923 : (Jvm.Cond.code y_M_wantSign prog_13_method_14_code (2 : Nat) (Option.none : Option Jvm.ClassFile.FieldType)) ∈ lw_tbl := List.mem_append_right _ (List.mem_of_getElem? (i := 923) (by decide +kernel))
theorem k_924 : (Jvm.Cond.methodLink "SchemaRecordsModel" (111 : Nat) y_M_takesSign) ∈ lw_tbl := List.mem_append_right _ (List.mem_of_getElem? (i := 924) (by decide +kernel))
theorem k_925 : (Jvm.Cond.privateMethod y_M_takesSign) ∈ lw_tbl := List.mem_append_right _ (List.mem_of_getElem? (i := 925) (by decide +kernel))
theorem k_926 : (Jvm.Cond.instanceMethod y_M_takesSign) ∈ lw_tbl := List.mem_append_right _ (List.mem_of_getElem? (i := 926) (by decide +kernel))
theorem k_927 : (Jvm.Cond.code y_M_takesSign prog_13_method_13_code (2 : Nat) (Option.some Jvm.ClassFile.FieldType.boolean)) ∈ lw_tbl := List.mem_append_right _ (List.mem_of_getElem? (i := 927) (by decide +kernel))
theorem k_928 : (Jvm.Cond.methodLink "SchemaRecordsModel" (159 : Nat) y_M_empty) ∈ lw_tbl := List.mem_append_right _ (List.mem_of_getElem? (i := 928) (by decide +kernel))
theorem k_929 : (Jvm.Cond.privateMethod y_M_empty) ∈ lw_tbl := List.mem_append_right _ (List.mem_of_getElem? (i := 929) (by decide +kernel))
theorem k_930 : (Jvm.Cond.instanceMethod y_M_empty) ∈ lw_tbl := List.mem_append_right _ (List.mem_of_getElem? (i := 930) (by decide +kernel))
theorem k_931 : (Jvm.Cond.code y_M_empty prog_13_method_25_code (1 : Nat) (Option.none : Option Jvm.ClassFile.FieldType)) ∈ lw_tbl := List.mem_append_right _ (List.mem_of_getElem? (i := 931) (by decide +kernel))
theorem k_932 : (Jvm.Cond.methodLink "SchemaRecordsLaw" (26 : Nat) y_M_count) ∈ lw_tbl := List.mem_append_right _ (List.mem_of_getElem? (i := 932) (by decide +kernel))
theorem k_933 : (Jvm.Cond.instanceMethod y_M_count) ∈ lw_tbl := List.mem_append_right _ (List.mem_of_getElem? (i := 933) (by decide +kernel))
theorem k_934 : (Jvm.Cond.selects "SchemaRecordsModel" y_M_count y_M_count) ∈ lw_tbl := List.mem_append_right _ (List.mem_of_getElem? (i := 934) (by decide +kernel))
theorem k_935 : (Jvm.Cond.code y_M_count prog_13_method_17_code (2 : Nat) (Option.some Jvm.ClassFile.FieldType.int)) ∈ lw_tbl := List.mem_append_right _ (List.mem_of_getElem? (i := 935) (by decide +kernel))
theorem k_936 : (Jvm.Cond.methodLink "SchemaRecordsLaw" (31 : Nat) y_M_field) ∈ lw_tbl := List.mem_append_right _ (List.mem_of_getElem? (i := 936) (by decide +kernel))
theorem k_937 : (Jvm.Cond.instanceMethod y_M_field) ∈ lw_tbl := List.mem_append_right _ (List.mem_of_getElem? (i := 937) (by decide +kernel))
theorem k_938 : (Jvm.Cond.selects "SchemaRecordsModel" y_M_field y_M_field) ∈ lw_tbl := List.mem_append_right _ (List.mem_of_getElem? (i := 938) (by decide +kernel))
theorem k_939 : (Jvm.Cond.code y_M_field prog_13_method_20_code (3 : Nat) (Option.some Jvm.ClassFile.FieldType.int)) ∈ lw_tbl := List.mem_append_right _ (List.mem_of_getElem? (i := 939) (by decide +kernel))
theorem k_940 : (Jvm.Cond.methodLink "SchemaRecordsModel" (162 : Nat) y_M_isField) ∈ lw_tbl := List.mem_append_right _ (List.mem_of_getElem? (i := 940) (by decide +kernel))
theorem k_941 : (Jvm.Cond.privateMethod y_M_isField) ∈ lw_tbl := List.mem_append_right _ (List.mem_of_getElem? (i := 941) (by decide +kernel))
theorem k_942 : (Jvm.Cond.instanceMethod y_M_isField) ∈ lw_tbl := List.mem_append_right _ (List.mem_of_getElem? (i := 942) (by decide +kernel))
theorem k_943 : (Jvm.Cond.code y_M_isField prog_13_method_19_code (2 : Nat) (Option.some Jvm.ClassFile.FieldType.boolean)) ∈ lw_tbl := List.mem_append_right _ (List.mem_of_getElem? (i := 943) (by decide +kernel))
theorem k_944 : (Jvm.Cond.methodLink "SchemaRecordsModel" (165 : Nat) y_M_level) ∈ lw_tbl := List.mem_append_right _ (List.mem_of_getElem? (i := 944) (by decide +kernel))
theorem k_945 : (Jvm.Cond.privateMethod y_M_level) ∈ lw_tbl := List.mem_append_right _ (List.mem_of_getElem? (i := 945) (by decide +kernel))
theorem k_946 : (Jvm.Cond.instanceMethod y_M_level) ∈ lw_tbl := List.mem_append_right _ (List.mem_of_getElem? (i := 946) (by decide +kernel))
theorem k_947 : (Jvm.Cond.code y_M_level prog_13_method_18_code (5 : Nat) (Option.some Jvm.ClassFile.FieldType.int)) ∈ lw_tbl := List.mem_append_right _ (List.mem_of_getElem? (i := 947) (by decide +kernel))
theorem k_948 : (Jvm.Cond.methodLink "SchemaRecordsLaw" (35 : Nat) y_M_letter) ∈ lw_tbl := List.mem_append_right _ (List.mem_of_getElem? (i := 948) (by decide +kernel))
theorem k_949 : (Jvm.Cond.instanceMethod y_M_letter) ∈ lw_tbl := List.mem_append_right _ (List.mem_of_getElem? (i := 949) (by decide +kernel))
theorem k_950 : (Jvm.Cond.selects "SchemaRecordsModel" y_M_letter y_M_letter) ∈ lw_tbl := List.mem_append_right _ (List.mem_of_getElem? (i := 950) (by decide +kernel))
theorem k_951 : (Jvm.Cond.code y_M_letter prog_13_method_21_code (3 : Nat) (Option.some Jvm.ClassFile.FieldType.int)) ∈ lw_tbl := List.mem_append_right _ (List.mem_of_getElem? (i := 951) (by decide +kernel))
theorem k_952 : (Jvm.Cond.methodLink "SchemaRecordsLaw" (39 : Nat) y_M_column) ∈ lw_tbl := List.mem_append_right _ (List.mem_of_getElem? (i := 952) (by decide +kernel))
theorem k_953 : (Jvm.Cond.instanceMethod y_M_column) ∈ lw_tbl := List.mem_append_right _ (List.mem_of_getElem? (i := 953) (by decide +kernel))
theorem k_954 : (Jvm.Cond.selects "SchemaRecordsModel" y_M_column y_M_column) ∈ lw_tbl := List.mem_append_right _ (List.mem_of_getElem? (i := 954) (by decide +kernel))
theorem k_955 : (Jvm.Cond.code y_M_column prog_13_method_22_code (3 : Nat) (Option.some Jvm.ClassFile.FieldType.int)) ∈ lw_tbl := List.mem_append_right _ (List.mem_of_getElem? (i := 955) (by decide +kernel))
theorem k_956 : (Jvm.Cond.methodLink "SchemaRecordsLaw" (43 : Nat) y_M_find) ∈ lw_tbl := List.mem_append_right _ (List.mem_of_getElem? (i := 956) (by decide +kernel))
theorem k_957 : (Jvm.Cond.instanceMethod y_M_find) ∈ lw_tbl := List.mem_append_right _ (List.mem_of_getElem? (i := 957) (by decide +kernel))
theorem k_958 : (Jvm.Cond.selects "SchemaRecordsModel" y_M_find y_M_find) ∈ lw_tbl := List.mem_append_right _ (List.mem_of_getElem? (i := 958) (by decide +kernel))
theorem k_959 : (Jvm.Cond.code y_M_find prog_13_method_24_code (3 : Nat) (Option.some Jvm.ClassFile.FieldType.int)) ∈ lw_tbl := List.mem_append_right _ (List.mem_of_getElem? (i := 959) (by decide +kernel))
theorem k_960 : (Jvm.Cond.methodLink "SchemaRecordsModel" (169 : Nat) y_M_named) ∈ lw_tbl := List.mem_append_right _ (List.mem_of_getElem? (i := 960) (by decide +kernel))
theorem k_961 : (Jvm.Cond.privateMethod y_M_named) ∈ lw_tbl := List.mem_append_right _ (List.mem_of_getElem? (i := 961) (by decide +kernel))
theorem k_962 : (Jvm.Cond.instanceMethod y_M_named) ∈ lw_tbl := List.mem_append_right _ (List.mem_of_getElem? (i := 962) (by decide +kernel))
theorem k_963 : (Jvm.Cond.code y_M_named prog_13_method_23_code (8 : Nat) (Option.some Jvm.ClassFile.FieldType.int)) ∈ lw_tbl := List.mem_append_right _ (List.mem_of_getElem? (i := 963) (by decide +kernel))
theorem k_964 : (Jvm.Cond.methodLink "SchemaRecordsLaw" (47 : Nat) y_M_record) ∈ lw_tbl := List.mem_append_right _ (List.mem_of_getElem? (i := 964) (by decide +kernel))
theorem k_965 : (Jvm.Cond.instanceMethod y_M_record) ∈ lw_tbl := List.mem_append_right _ (List.mem_of_getElem? (i := 965) (by decide +kernel))
theorem k_966 : (Jvm.Cond.selects "SchemaRecordsModel" y_M_record y_M_record) ∈ lw_tbl := List.mem_append_right _ (List.mem_of_getElem? (i := 966) (by decide +kernel))
theorem k_967 : (Jvm.Cond.code y_M_record prog_13_method_36_code (5 : Nat) (Option.some Jvm.ClassFile.FieldType.int)) ∈ lw_tbl := List.mem_append_right _ (List.mem_of_getElem? (i := 967) (by decide +kernel))
theorem k_968 : (Jvm.Cond.methodLink "SchemaRecordsModel" (197 : Nat) y_M_readGroup) ∈ lw_tbl := List.mem_append_right _ (List.mem_of_getElem? (i := 968) (by decide +kernel))
theorem k_969 : (Jvm.Cond.privateMethod y_M_readGroup) ∈ lw_tbl := List.mem_append_right _ (List.mem_of_getElem? (i := 969) (by decide +kernel))
theorem k_970 : (Jvm.Cond.instanceMethod y_M_readGroup) ∈ lw_tbl := List.mem_append_right _ (List.mem_of_getElem? (i := 970) (by decide +kernel))
theorem k_971 : (Jvm.Cond.code y_M_readGroup prog_13_method_34_code (7 : Nat) (Option.none : Option Jvm.ClassFile.FieldType)) ∈ lw_tbl := List.mem_append_right _ (List.mem_of_getElem? (i := 971) (by decide +kernel))
theorem k_972 : (Jvm.Cond.methodLink "SchemaRecordsModel" (214 : Nat) y_M_end) ∈ lw_tbl := List.mem_append_right _ (List.mem_of_getElem? (i := 972) (by decide +kernel))
theorem k_973 : (Jvm.Cond.privateMethod y_M_end) ∈ lw_tbl := List.mem_append_right _ (List.mem_of_getElem? (i := 973) (by decide +kernel))
theorem k_974 : (Jvm.Cond.instanceMethod y_M_end) ∈ lw_tbl := List.mem_append_right _ (List.mem_of_getElem? (i := 974) (by decide +kernel))
theorem k_975 : (Jvm.Cond.code y_M_end prog_13_method_35_code (3 : Nat) (Option.none : Option Jvm.ClassFile.FieldType)) ∈ lw_tbl := List.mem_append_right _ (List.mem_of_getElem? (i := 975) (by decide +kernel))
theorem k_976 : (Jvm.Cond.methodLink "SchemaRecordsModel" (217 : Nat) y_M_misses) ∈ lw_tbl := List.mem_append_right _ (List.mem_of_getElem? (i := 976) (by decide +kernel))
theorem k_977 : (Jvm.Cond.privateMethod y_M_misses) ∈ lw_tbl := List.mem_append_right _ (List.mem_of_getElem? (i := 977) (by decide +kernel))
theorem k_978 : (Jvm.Cond.instanceMethod y_M_misses) ∈ lw_tbl := List.mem_append_right _ (List.mem_of_getElem? (i := 978) (by decide +kernel))
theorem k_979 : (Jvm.Cond.code y_M_misses prog_13_method_33_code (6 : Nat) (Option.some Jvm.ClassFile.FieldType.boolean)) ∈ lw_tbl := List.mem_append_right _ (List.mem_of_getElem? (i := 979) (by decide +kernel))
theorem k_980 : (Jvm.Cond.methodLink "SchemaRecordsModel" (221 : Nat) y_M_readRow) ∈ lw_tbl := List.mem_append_right _ (List.mem_of_getElem? (i := 980) (by decide +kernel))
theorem k_981 : (Jvm.Cond.privateMethod y_M_readRow) ∈ lw_tbl := List.mem_append_right _ (List.mem_of_getElem? (i := 981) (by decide +kernel))
theorem k_982 : (Jvm.Cond.instanceMethod y_M_readRow) ∈ lw_tbl := List.mem_append_right _ (List.mem_of_getElem? (i := 982) (by decide +kernel))
theorem k_983 : (Jvm.Cond.code y_M_readRow prog_13_method_32_code (3 : Nat) (Option.none : Option Jvm.ClassFile.FieldType)) ∈ lw_tbl := List.mem_append_right _ (List.mem_of_getElem? (i := 983) (by decide +kernel))
theorem k_984 : (Jvm.Cond.methodLink "SchemaRecordsModel" (211 : Nat) y_M_readValue) ∈ lw_tbl := List.mem_append_right _ (List.mem_of_getElem? (i := 984) (by decide +kernel))
theorem k_985 : (Jvm.Cond.privateMethod y_M_readValue) ∈ lw_tbl := List.mem_append_right _ (List.mem_of_getElem? (i := 985) (by decide +kernel))
theorem k_986 : (Jvm.Cond.instanceMethod y_M_readValue) ∈ lw_tbl := List.mem_append_right _ (List.mem_of_getElem? (i := 986) (by decide +kernel))
theorem k_987 : (Jvm.Cond.code y_M_readValue prog_13_method_31_code (5 : Nat) (Option.none : Option Jvm.ClassFile.FieldType)) ∈ lw_tbl := List.mem_append_right _ (List.mem_of_getElem? (i := 987) (by decide +kernel))
theorem k_988 : (Jvm.Cond.methodLink "SchemaRecordsModel" (193 : Nat) y_M_node) ∈ lw_tbl := List.mem_append_right _ (List.mem_of_getElem? (i := 988) (by decide +kernel))
theorem k_989 : (Jvm.Cond.privateMethod y_M_node) ∈ lw_tbl := List.mem_append_right _ (List.mem_of_getElem? (i := 989) (by decide +kernel))
theorem k_990 : (Jvm.Cond.instanceMethod y_M_node) ∈ lw_tbl := List.mem_append_right _ (List.mem_of_getElem? (i := 990) (by decide +kernel))
theorem k_991 : (Jvm.Cond.code y_M_node prog_13_method_26_code (5 : Nat) (Option.some Jvm.ClassFile.FieldType.int)) ∈ lw_tbl := List.mem_append_right _ (List.mem_of_getElem? (i := 991) (by decide +kernel))
theorem k_992 : (Jvm.Cond.methodLink "SchemaRecordsModel" (200 : Nat) y_M_readText) ∈ lw_tbl := List.mem_append_right _ (List.mem_of_getElem? (i := 992) (by decide +kernel))
theorem k_993 : (Jvm.Cond.privateMethod y_M_readText) ∈ lw_tbl := List.mem_append_right _ (List.mem_of_getElem? (i := 993) (by decide +kernel))
theorem k_994 : (Jvm.Cond.instanceMethod y_M_readText) ∈ lw_tbl := List.mem_append_right _ (List.mem_of_getElem? (i := 994) (by decide +kernel))
theorem k_995 : (Jvm.Cond.code y_M_readText prog_13_method_28_code (4 : Nat) (Option.none : Option Jvm.ClassFile.FieldType)) ∈ lw_tbl := List.mem_append_right _ (List.mem_of_getElem? (i := 995) (by decide +kernel))
theorem k_996 : (Jvm.Cond.methodLink "SchemaRecordsModel" (176 : Nat) y_M_behind) ∈ lw_tbl := List.mem_append_right _ (List.mem_of_getElem? (i := 996) (by decide +kernel))
theorem k_997 : (Jvm.Cond.privateMethod y_M_behind) ∈ lw_tbl := List.mem_append_right _ (List.mem_of_getElem? (i := 997) (by decide +kernel))
theorem k_998 : (Jvm.Cond.instanceMethod y_M_behind) ∈ lw_tbl := List.mem_append_right _ (List.mem_of_getElem? (i := 998) (by decide +kernel))
theorem k_999 : (Jvm.Cond.code y_M_behind prog_13_method_29_code (7 : Nat) (Option.some Jvm.ClassFile.FieldType.int)) ∈ lw_tbl := List.mem_append_right _ (List.mem_of_getElem? (i := 999) (by decide +kernel))
theorem k_1000 : (Jvm.Cond.methodLink "SchemaRecordsModel" (180 : Nat) y_M_say) ∈ lw_tbl := List.mem_append_right _ (List.mem_of_getElem? (i := 1000) (by decide +kernel))
theorem k_1001 : (Jvm.Cond.privateMethod y_M_say) ∈ lw_tbl := List.mem_append_right _ (List.mem_of_getElem? (i := 1001) (by decide +kernel))
theorem k_1002 : (Jvm.Cond.instanceMethod y_M_say) ∈ lw_tbl := List.mem_append_right _ (List.mem_of_getElem? (i := 1002) (by decide +kernel))
theorem k_1003 : (Jvm.Cond.code y_M_say prog_13_method_27_code (2 : Nat) (Option.none : Option Jvm.ClassFile.FieldType)) ∈ lw_tbl := List.mem_append_right _ (List.mem_of_getElem? (i := 1003) (by decide +kernel))
theorem k_1004 : (Jvm.Cond.constantLong "SchemaRecordsModel" (203 : Nat) (1953658213 : Int64)) ∈ lw_tbl := List.mem_append_right _ (List.mem_of_getElem? (i := 1004) (by decide +kernel))
theorem k_1005 : (Jvm.Cond.constantLong "SchemaRecordsModel" (205 : Nat) (439721161573 : Int64)) ∈ lw_tbl := List.mem_append_right _ (List.mem_of_getElem? (i := 1005) (by decide +kernel))
theorem k_1006 : (Jvm.Cond.methodLink "SchemaRecordsModel" (207 : Nat) y_M_readNumber) ∈ lw_tbl := List.mem_append_right _ (List.mem_of_getElem? (i := 1006) (by decide +kernel))
theorem k_1007 : (Jvm.Cond.privateMethod y_M_readNumber) ∈ lw_tbl := List.mem_append_right _ (List.mem_of_getElem? (i := 1007) (by decide +kernel))
theorem k_1008 : (Jvm.Cond.instanceMethod y_M_readNumber) ∈ lw_tbl := List.mem_append_right _ (List.mem_of_getElem? (i := 1008) (by decide +kernel))
theorem k_1009 : (Jvm.Cond.code y_M_readNumber prog_13_method_30_code (12 : Nat) (Option.some Jvm.ClassFile.FieldType.long)) ∈ lw_tbl := List.mem_append_right _ (List.mem_of_getElem? (i := 1009) (by decide +kernel))
theorem k_1010 : (Jvm.Cond.constantLong "SchemaRecordsModel" (185 : Nat) (-9223372036854775808 : Int64)) ∈ lw_tbl := List.mem_append_right _ (List.mem_of_getElem? (i := 1010) (by decide +kernel))
theorem k_1011 : (Jvm.Cond.constantLong "SchemaRecordsModel" (187 : Nat) (10 : Int64)) ∈ lw_tbl := List.mem_append_right _ (List.mem_of_getElem? (i := 1011) (by decide +kernel))
theorem k_1012 : (Jvm.Cond.constantLong "SchemaRecordsModel" (189 : Nat) (-2147483648 : Int64)) ∈ lw_tbl := List.mem_append_right _ (List.mem_of_getElem? (i := 1012) (by decide +kernel))
theorem k_1013 : (Jvm.Cond.constantLong "SchemaRecordsModel" (191 : Nat) (2147483647 : Int64)) ∈ lw_tbl := List.mem_append_right _ (List.mem_of_getElem? (i := 1013) (by decide +kernel))
theorem k_1014 : (Jvm.Cond.methodLink "SchemaRecordsLaw" (51 : Nat) y_M_begin) ∈ lw_tbl := List.mem_append_right _ (List.mem_of_getElem? (i := 1014) (by decide +kernel))
theorem k_1015 : (Jvm.Cond.instanceMethod y_M_begin) ∈ lw_tbl := List.mem_append_right _ (List.mem_of_getElem? (i := 1015) (by decide +kernel))
theorem k_1016 : (Jvm.Cond.selects "SchemaRecordsModel" y_M_begin y_M_begin) ∈ lw_tbl := List.mem_append_right _ (List.mem_of_getElem? (i := 1016) (by decide +kernel))
theorem k_1017 : (Jvm.Cond.code y_M_begin prog_13_method_37_code (1 : Nat) (Option.none : Option Jvm.ClassFile.FieldType)) ∈ lw_tbl := List.mem_append_right _ (List.mem_of_getElem? (i := 1017) (by decide +kernel))
theorem k_1018 : (Jvm.Cond.methodLink "SchemaRecordsLaw" (58 : Nat) y_M_add) ∈ lw_tbl := List.mem_append_right _ (List.mem_of_getElem? (i := 1018) (by decide +kernel))
theorem k_1019 : (Jvm.Cond.instanceMethod y_M_add) ∈ lw_tbl := List.mem_append_right _ (List.mem_of_getElem? (i := 1019) (by decide +kernel))
theorem k_1020 : (Jvm.Cond.selects "SchemaRecordsModel" y_M_add y_M_add) ∈ lw_tbl := List.mem_append_right _ (List.mem_of_getElem? (i := 1020) (by decide +kernel))
theorem k_1021 : (Jvm.Cond.code y_M_add prog_13_method_39_code (5 : Nat) (Option.some Jvm.ClassFile.FieldType.int)) ∈ lw_tbl := List.mem_append_right _ (List.mem_of_getElem? (i := 1021) (by decide +kernel))
theorem k_1022 : (Jvm.Cond.methodLink "SchemaRecordsModel" (224 : Nat) y_M_may) ∈ lw_tbl := List.mem_append_right _ (List.mem_of_getElem? (i := 1022) (by decide +kernel))
theorem k_1023 : (Jvm.Cond.privateMethod y_M_may) ∈ lw_tbl := List.mem_append_right _ (List.mem_of_getElem? (i := 1023) (by decide +kernel))
theorem k_1024 : (Jvm.Cond.instanceMethod y_M_may) ∈ lw_tbl := List.mem_append_right _ (List.mem_of_getElem? (i := 1024) (by decide +kernel))
theorem k_1025 : (Jvm.Cond.code y_M_may prog_13_method_38_code (6 : Nat) (Option.some Jvm.ClassFile.FieldType.boolean)) ∈ lw_tbl := List.mem_append_right _ (List.mem_of_getElem? (i := 1025) (by decide +kernel))
theorem k_1026 : (Jvm.Cond.methodLink "SchemaRecordsLaw" (63 : Nat) y_M_addText) ∈ lw_tbl := List.mem_append_right _ (List.mem_of_getElem? (i := 1026) (by decide +kernel))
theorem k_1027 : (Jvm.Cond.instanceMethod y_M_addText) ∈ lw_tbl := List.mem_append_right _ (List.mem_of_getElem? (i := 1027) (by decide +kernel))
theorem k_1028 : (Jvm.Cond.selects "SchemaRecordsModel" y_M_addText y_M_addText) ∈ lw_tbl := List.mem_append_right _ (List.mem_of_getElem? (i := 1028) (by decide +kernel))
theorem k_1029 : (Jvm.Cond.code y_M_addText prog_13_method_40_code (6 : Nat) (Option.some Jvm.ClassFile.FieldType.int)) ∈ lw_tbl := List.mem_append_right _ (List.mem_of_getElem? (i := 1029) (by decide +kernel))
theorem k_1030 : (Jvm.Cond.methodLink "SchemaRecordsLaw" (68 : Nat) y_M_nodes) ∈ lw_tbl := List.mem_append_right _ (List.mem_of_getElem? (i := 1030) (by decide +kernel))
theorem k_1031 : (Jvm.Cond.instanceMethod y_M_nodes) ∈ lw_tbl := List.mem_append_right _ (List.mem_of_getElem? (i := 1031) (by decide +kernel))
theorem k_1032 : (Jvm.Cond.selects "SchemaRecordsModel" y_M_nodes y_M_nodes) ∈ lw_tbl := List.mem_append_right _ (List.mem_of_getElem? (i := 1032) (by decide +kernel))
theorem k_1033 : (Jvm.Cond.code y_M_nodes prog_13_method_41_code (1 : Nat) (Option.some Jvm.ClassFile.FieldType.int)) ∈ lw_tbl := List.mem_append_right _ (List.mem_of_getElem? (i := 1033) (by decide +kernel))
theorem k_1034 : (Jvm.Cond.methodLink "SchemaRecordsLaw" (72 : Nat) y_M_node2) ∈ lw_tbl := List.mem_append_right _ (List.mem_of_getElem? (i := 1034) (by decide +kernel))
theorem k_1035 : (Jvm.Cond.instanceMethod y_M_node2) ∈ lw_tbl := List.mem_append_right _ (List.mem_of_getElem? (i := 1035) (by decide +kernel))
theorem k_1036 : (Jvm.Cond.selects "SchemaRecordsModel" y_M_node2 y_M_node2) ∈ lw_tbl := List.mem_append_right _ (List.mem_of_getElem? (i := 1036) (by decide +kernel))
theorem k_1037 : (Jvm.Cond.code y_M_node2 prog_13_method_43_code (5 : Nat) (Option.some Jvm.ClassFile.FieldType.int)) ∈ lw_tbl := List.mem_append_right _ (List.mem_of_getElem? (i := 1037) (by decide +kernel))
theorem k_1038 : (Jvm.Cond.methodLink "SchemaRecordsModel" (228 : Nat) y_M_isNode) ∈ lw_tbl := List.mem_append_right _ (List.mem_of_getElem? (i := 1038) (by decide +kernel))
theorem k_1039 : (Jvm.Cond.privateMethod y_M_isNode) ∈ lw_tbl := List.mem_append_right _ (List.mem_of_getElem? (i := 1039) (by decide +kernel))
theorem k_1040 : (Jvm.Cond.instanceMethod y_M_isNode) ∈ lw_tbl := List.mem_append_right _ (List.mem_of_getElem? (i := 1040) (by decide +kernel))
theorem k_1041 : (Jvm.Cond.code y_M_isNode prog_13_method_42_code (2 : Nat) (Option.some Jvm.ClassFile.FieldType.boolean)) ∈ lw_tbl := List.mem_append_right _ (List.mem_of_getElem? (i := 1041) (by decide +kernel))
theorem k_1042 : (Jvm.Cond.methodLink "SchemaRecordsLaw" (77 : Nat) y_M_value) ∈ lw_tbl := List.mem_append_right _ (List.mem_of_getElem? (i := 1042) (by decide +kernel))
theorem k_1043 : (Jvm.Cond.instanceMethod y_M_value) ∈ lw_tbl := List.mem_append_right _ (List.mem_of_getElem? (i := 1043) (by decide +kernel))
theorem k_1044 : (Jvm.Cond.selects "SchemaRecordsModel" y_M_value y_M_value) ∈ lw_tbl := List.mem_append_right _ (List.mem_of_getElem? (i := 1044) (by decide +kernel))
theorem k_1045 : (Jvm.Cond.code y_M_value prog_13_method_44_code (2 : Nat) (Option.some Jvm.ClassFile.FieldType.long)) ∈ lw_tbl := List.mem_append_right _ (List.mem_of_getElem? (i := 1045) (by decide +kernel))
theorem k_1046 : (Jvm.Cond.methodLink "SchemaRecordsLaw" (81 : Nat) y_M_textByte) ∈ lw_tbl := List.mem_append_right _ (List.mem_of_getElem? (i := 1046) (by decide +kernel))
theorem k_1047 : (Jvm.Cond.instanceMethod y_M_textByte) ∈ lw_tbl := List.mem_append_right _ (List.mem_of_getElem? (i := 1047) (by decide +kernel))
theorem k_1048 : (Jvm.Cond.selects "SchemaRecordsModel" y_M_textByte y_M_textByte) ∈ lw_tbl := List.mem_append_right _ (List.mem_of_getElem? (i := 1048) (by decide +kernel))
theorem k_1049 : (Jvm.Cond.code y_M_textByte prog_13_method_45_code (3 : Nat) (Option.some Jvm.ClassFile.FieldType.int)) ∈ lw_tbl := List.mem_append_right _ (List.mem_of_getElem? (i := 1049) (by decide +kernel))
theorem k_1050 : (Jvm.Cond.methodLink "SchemaRecordsLaw" (86 : Nat) y_M_isWhole) ∈ lw_tbl := List.mem_append_right _ (List.mem_of_getElem? (i := 1050) (by decide +kernel))
theorem k_1051 : (Jvm.Cond.instanceMethod y_M_isWhole) ∈ lw_tbl := List.mem_append_right _ (List.mem_of_getElem? (i := 1051) (by decide +kernel))
theorem k_1052 : (Jvm.Cond.selects "SchemaRecordsModel" y_M_isWhole y_M_isWhole) ∈ lw_tbl := List.mem_append_right _ (List.mem_of_getElem? (i := 1052) (by decide +kernel))
theorem k_1053 : (Jvm.Cond.code y_M_isWhole prog_13_method_47_code (1 : Nat) (Option.some Jvm.ClassFile.FieldType.boolean)) ∈ lw_tbl := List.mem_append_right _ (List.mem_of_getElem? (i := 1053) (by decide +kernel))
theorem k_1054 : (Jvm.Cond.methodLink "SchemaRecordsModel" (231 : Nat) y_M_whole) ∈ lw_tbl := List.mem_append_right _ (List.mem_of_getElem? (i := 1054) (by decide +kernel))
theorem k_1055 : (Jvm.Cond.privateMethod y_M_whole) ∈ lw_tbl := List.mem_append_right _ (List.mem_of_getElem? (i := 1055) (by decide +kernel))
theorem k_1056 : (Jvm.Cond.instanceMethod y_M_whole) ∈ lw_tbl := List.mem_append_right _ (List.mem_of_getElem? (i := 1056) (by decide +kernel))
theorem k_1057 : (Jvm.Cond.code y_M_whole prog_13_method_46_code (6 : Nat) (Option.some Jvm.ClassFile.FieldType.boolean)) ∈ lw_tbl := List.mem_append_right _ (List.mem_of_getElem? (i := 1057) (by decide +kernel))
theorem k_1058 : (Jvm.Cond.methodLink "SchemaRecordsLaw" (90 : Nat) y_M_write) ∈ lw_tbl := List.mem_append_right _ (List.mem_of_getElem? (i := 1058) (by decide +kernel))
theorem k_1059 : (Jvm.Cond.instanceMethod y_M_write) ∈ lw_tbl := List.mem_append_right _ (List.mem_of_getElem? (i := 1059) (by decide +kernel))
theorem k_1060 : (Jvm.Cond.selects "SchemaRecordsModel" y_M_write y_M_write) ∈ lw_tbl := List.mem_append_right _ (List.mem_of_getElem? (i := 1060) (by decide +kernel))
theorem k_1061 : (Jvm.Cond.code y_M_write prog_13_method_55_code (1 : Nat) (Option.some Jvm.ClassFile.FieldType.int)) ∈ lw_tbl := List.mem_append_right _ (List.mem_of_getElem? (i := 1061) (by decide +kernel))
theorem k_1062 : (Jvm.Cond.methodLink "SchemaRecordsModel" (250 : Nat) y_M_putGroup) ∈ lw_tbl := List.mem_append_right _ (List.mem_of_getElem? (i := 1062) (by decide +kernel))
theorem k_1063 : (Jvm.Cond.privateMethod y_M_putGroup) ∈ lw_tbl := List.mem_append_right _ (List.mem_of_getElem? (i := 1063) (by decide +kernel))
theorem k_1064 : (Jvm.Cond.instanceMethod y_M_putGroup) ∈ lw_tbl := List.mem_append_right _ (List.mem_of_getElem? (i := 1064) (by decide +kernel))
theorem k_1065 : (Jvm.Cond.code y_M_putGroup prog_13_method_54_code (7 : Nat) (Option.none : Option Jvm.ClassFile.FieldType)) ∈ lw_tbl := List.mem_append_right _ (List.mem_of_getElem? (i := 1065) (by decide +kernel))
theorem k_1066 : (Jvm.Cond.methodLink "SchemaRecordsModel" (238 : Nat) y_M_put) ∈ lw_tbl := List.mem_append_right _ (List.mem_of_getElem? (i := 1066) (by decide +kernel))
theorem k_1067 : (Jvm.Cond.privateMethod y_M_put) ∈ lw_tbl := List.mem_append_right _ (List.mem_of_getElem? (i := 1067) (by decide +kernel))
theorem k_1068 : (Jvm.Cond.instanceMethod y_M_put) ∈ lw_tbl := List.mem_append_right _ (List.mem_of_getElem? (i := 1068) (by decide +kernel))
theorem k_1069 : (Jvm.Cond.code y_M_put prog_13_method_48_code (2 : Nat) (Option.none : Option Jvm.ClassFile.FieldType)) ∈ lw_tbl := List.mem_append_right _ (List.mem_of_getElem? (i := 1069) (by decide +kernel))
theorem k_1070 : (Jvm.Cond.methodLink "SchemaRecordsModel" (263 : Nat) y_M_putValue) ∈ lw_tbl := List.mem_append_right _ (List.mem_of_getElem? (i := 1070) (by decide +kernel))
theorem k_1071 : (Jvm.Cond.privateMethod y_M_putValue) ∈ lw_tbl := List.mem_append_right _ (List.mem_of_getElem? (i := 1071) (by decide +kernel))
theorem k_1072 : (Jvm.Cond.instanceMethod y_M_putValue) ∈ lw_tbl := List.mem_append_right _ (List.mem_of_getElem? (i := 1072) (by decide +kernel))
theorem k_1073 : (Jvm.Cond.code y_M_putValue prog_13_method_53_code (3 : Nat) (Option.none : Option Jvm.ClassFile.FieldType)) ∈ lw_tbl := List.mem_append_right _ (List.mem_of_getElem? (i := 1073) (by decide +kernel))
theorem k_1074 : (Jvm.Cond.methodLink "SchemaRecordsModel" (253 : Nat) y_M_putText) ∈ lw_tbl := List.mem_append_right _ (List.mem_of_getElem? (i := 1074) (by decide +kernel))
theorem k_1075 : (Jvm.Cond.privateMethod y_M_putText) ∈ lw_tbl := List.mem_append_right _ (List.mem_of_getElem? (i := 1075) (by decide +kernel))
theorem k_1076 : (Jvm.Cond.instanceMethod y_M_putText) ∈ lw_tbl := List.mem_append_right _ (List.mem_of_getElem? (i := 1076) (by decide +kernel))
theorem k_1077 : (Jvm.Cond.code y_M_putText prog_13_method_51_code (4 : Nat) (Option.none : Option Jvm.ClassFile.FieldType)) ∈ lw_tbl := List.mem_append_right _ (List.mem_of_getElem? (i := 1077) (by decide +kernel))
theorem k_1078 : (Jvm.Cond.methodLink "SchemaRecordsModel" (245 : Nat) y_M_putHex) ∈ lw_tbl := List.mem_append_right _ (List.mem_of_getElem? (i := 1078) (by decide +kernel))
theorem k_1079 : (Jvm.Cond.privateMethod y_M_putHex) ∈ lw_tbl := List.mem_append_right _ (List.mem_of_getElem? (i := 1079) (by decide +kernel))
theorem k_1080 : (Jvm.Cond.instanceMethod y_M_putHex) ∈ lw_tbl := List.mem_append_right _ (List.mem_of_getElem? (i := 1080) (by decide +kernel))
theorem k_1081 : (Jvm.Cond.code y_M_putHex prog_13_method_50_code (2 : Nat) (Option.none : Option Jvm.ClassFile.FieldType)) ∈ lw_tbl := List.mem_append_right _ (List.mem_of_getElem? (i := 1081) (by decide +kernel))
theorem k_1082 : (Jvm.Cond.methodLink "SchemaRecordsModel" (256 : Nat) y_M_putWord) ∈ lw_tbl := List.mem_append_right _ (List.mem_of_getElem? (i := 1082) (by decide +kernel))
theorem k_1083 : (Jvm.Cond.privateMethod y_M_putWord) ∈ lw_tbl := List.mem_append_right _ (List.mem_of_getElem? (i := 1083) (by decide +kernel))
theorem k_1084 : (Jvm.Cond.instanceMethod y_M_putWord) ∈ lw_tbl := List.mem_append_right _ (List.mem_of_getElem? (i := 1084) (by decide +kernel))
theorem k_1085 : (Jvm.Cond.code y_M_putWord prog_13_method_52_code (4 : Nat) (Option.none : Option Jvm.ClassFile.FieldType)) ∈ lw_tbl := List.mem_append_right _ (List.mem_of_getElem? (i := 1085) (by decide +kernel))
theorem k_1086 : (Jvm.Cond.constantLong "SchemaRecordsModel" (248 : Nat) (255 : Int64)) ∈ lw_tbl := List.mem_append_right _ (List.mem_of_getElem? (i := 1086) (by decide +kernel))
theorem k_1087 : (Jvm.Cond.methodLink "SchemaRecordsModel" (260 : Nat) y_M_putNumber) ∈ lw_tbl := List.mem_append_right _ (List.mem_of_getElem? (i := 1087) (by decide +kernel))
theorem k_1088 : (Jvm.Cond.privateMethod y_M_putNumber) ∈ lw_tbl := List.mem_append_right _ (List.mem_of_getElem? (i := 1088) (by decide +kernel))
theorem k_1089 : (Jvm.Cond.instanceMethod y_M_putNumber) ∈ lw_tbl := List.mem_append_right _ (List.mem_of_getElem? (i := 1089) (by decide +kernel))
theorem k_1090 : (Jvm.Cond.code y_M_putNumber prog_13_method_49_code (9 : Nat) (Option.none : Option Jvm.ClassFile.FieldType)) ∈ lw_tbl := List.mem_append_right _ (List.mem_of_getElem? (i := 1090) (by decide +kernel))
theorem k_1091 : (Jvm.Cond.constantLong "SchemaRecordsModel" (241 : Nat) (9 : Int64)) ∈ lw_tbl := List.mem_append_right _ (List.mem_of_getElem? (i := 1091) (by decide +kernel))
theorem k_1092 : (Jvm.Cond.constantLong "SchemaRecordsModel" (243 : Nat) (-9 : Int64)) ∈ lw_tbl := List.mem_append_right _ (List.mem_of_getElem? (i := 1092) (by decide +kernel))
theorem k_1093 : (Jvm.Cond.methodLink "SchemaRecordsLaw" (94 : Nat) y_M_output) ∈ lw_tbl := List.mem_append_right _ (List.mem_of_getElem? (i := 1093) (by decide +kernel))
theorem k_1094 : (Jvm.Cond.instanceMethod y_M_output) ∈ lw_tbl := List.mem_append_right _ (List.mem_of_getElem? (i := 1094) (by decide +kernel))
theorem k_1095 : (Jvm.Cond.selects "SchemaRecordsModel" y_M_output y_M_output) ∈ lw_tbl := List.mem_append_right _ (List.mem_of_getElem? (i := 1095) (by decide +kernel))
theorem k_1096 : (Jvm.Cond.code y_M_output prog_13_method_56_code (2 : Nat) (Option.some Jvm.ClassFile.FieldType.int)) ∈ lw_tbl := List.mem_append_right _ (List.mem_of_getElem? (i := 1096) (by decide +kernel))
theorem k_1097 : (Jvm.Cond.constantLong "SchemaRecordsLaw" (52 : Nat) (4294967295 : Int64)) ∈ lw_tbl := List.mem_append_right _ (List.mem_of_getElem? (i := 1097) (by decide +kernel))
theorem k_1098 : (Jvm.Cond.fieldLink "java/lang/String" (9 : Nat) "java/lang/String" "value" "[B") ∈ lw_tbl := List.mem_append_right _ (List.mem_of_getElem? (i := 1098) (by decide +kernel))
theorem k_1099 : (Jvm.Cond.fieldLink "java/lang/String" (15 : Nat) "java/lang/String" "coder" "B") ∈ lw_tbl := List.mem_append_right _ (List.mem_of_getElem? (i := 1099) (by decide +kernel))
theorem i_X : ∀ w ∈ u_ws R_X F_X 5, w ∈ lw_tbl := by decide +kernel
theorem i_Tape : ∀ w ∈ u_ws R_Tape F_Tape 2, w ∈ lw_tbl := by decide +kernel
theorem i_ByteRow : ∀ w ∈ u_ws R_ByteRow F_ByteRow 2, w ∈ lw_tbl := by decide +kernel
theorem i_Schema : ∀ w ∈ u_ws R_Schema F_Schema 5, w ∈ lw_tbl := by decide +kernel
theorem i_Field : ∀ w ∈ u_ws R_Field F_Field 9, w ∈ lw_tbl := by decide +kernel
theorem i_NodeRow : ∀ w ∈ u_ws R_NodeRow F_NodeRow 3, w ∈ lw_tbl := by decide +kernel
theorem i_Node : ∀ w ∈ u_ws R_Node F_Node 7, w ∈ lw_tbl := by decide +kernel
theorem i_Scanner : ∀ w ∈ u_ws R_Scanner F_Scanner 6, w ∈ lw_tbl := by decide +kernel
theorem i_SchemaReader : ∀ w ∈ u_ws R_SchemaReader F_SchemaReader 2, w ∈ lw_tbl := by decide +kernel
theorem i_RecordReader : ∀ w ∈ u_ws R_RecordReader F_RecordReader 5, w ∈ lw_tbl := by decide +kernel
theorem i_RecordWriter : ∀ w ∈ u_ws R_RecordWriter F_RecordWriter 3, w ∈ lw_tbl := by decide +kernel
theorem i_M : ∀ w ∈ u_ws R_M F_M 31, w ∈ lw_tbl := by decide +kernel
