section
-- ===== PART A: goes FIRST, ahead of the names: the tables' words, and 'selects' of the private methods out of them =====
/-- a private method of a class that the tables say can be made, by its rows of tables_1 -/
def lw_okq (q : MethodName × Nat) : Prop := (q.1.cls ≠ "java/lang/invoke/MethodHandle" ∧ q.1.cls ≠ "java/lang/invoke/VarHandle") ∧ Cond.instantiable q.1.cls q.2 ∈ tables_1 ∧ Cond.privateMethod q.1 ∈ tables_1 ∧ Cond.instanceMethod q.1 ∈ tables_1
theorem lw_p0 : lw_okq (⟨"BurstWords$Dictionary", "has", "(I)Z"⟩, 4) := ⟨⟨by decide +kernel, by decide +kernel⟩, List.mem_of_getElem? (i := 19) (by decide +kernel), List.mem_of_getElem? (i := 149) (by decide +kernel), List.mem_of_getElem? (i := 150) (by decide +kernel)⟩
theorem lw_p1 : lw_okq (⟨"BurstWords$History", "loseOldest", "()V"⟩, 4) := ⟨⟨by decide +kernel, by decide +kernel⟩, List.mem_of_getElem? (i := 40) (by decide +kernel), List.mem_of_getElem? (i := 178) (by decide +kernel), List.mem_of_getElem? (i := 179) (by decide +kernel)⟩
theorem lw_p2 : lw_okq (⟨"BurstWords$Dictionary", "insert", "(IJI)V"⟩, 4) := ⟨⟨by decide +kernel, by decide +kernel⟩, List.mem_of_getElem? (i := 19) (by decide +kernel), List.mem_of_getElem? (i := 189) (by decide +kernel), List.mem_of_getElem? (i := 190) (by decide +kernel)⟩
theorem lw_p3 : lw_okq (⟨"BurstWords$Dictionary", "remove", "(I)V"⟩, 4) := ⟨⟨by decide +kernel, by decide +kernel⟩, List.mem_of_getElem? (i := 19) (by decide +kernel), List.mem_of_getElem? (i := 195) (by decide +kernel), List.mem_of_getElem? (i := 196) (by decide +kernel)⟩
theorem lw_p4 : lw_okq (⟨"BurstWords$History", "hasLast", "()Z"⟩, 4) := ⟨⟨by decide +kernel, by decide +kernel⟩, List.mem_of_getElem? (i := 40) (by decide +kernel), List.mem_of_getElem? (i := 232) (by decide +kernel), List.mem_of_getElem? (i := 233) (by decide +kernel)⟩
theorem lw_p5 : lw_okq (⟨"BurstWords", "told", "(II)I"⟩, 6) := ⟨⟨by decide +kernel, by decide +kernel⟩, List.mem_of_getElem? (i := 11) (by decide +kernel), List.mem_of_getElem? (i := 331) (by decide +kernel), List.mem_of_getElem? (i := 332) (by decide +kernel)⟩
theorem lw_p6 : lw_okq (⟨"BurstWords$Dictionary", "moreFrequent", "(JI)I"⟩, 4) := ⟨⟨by decide +kernel, by decide +kernel⟩, List.mem_of_getElem? (i := 19) (by decide +kernel), List.mem_of_getElem? (i := 353) (by decide +kernel), List.mem_of_getElem? (i := 354) (by decide +kernel)⟩
theorem lw_p7 : lw_okq (⟨"BurstWords", "tallyFitting", "()I"⟩, 6) := ⟨⟨by decide +kernel, by decide +kernel⟩, List.mem_of_getElem? (i := 11) (by decide +kernel), List.mem_of_getElem? (i := 390) (by decide +kernel), List.mem_of_getElem? (i := 391) (by decide +kernel)⟩
theorem lw_p8 : lw_okq (⟨"BurstWords", "tallyLetters", "(J)V"⟩, 6) := ⟨⟨by decide +kernel, by decide +kernel⟩, List.mem_of_getElem? (i := 11) (by decide +kernel), List.mem_of_getElem? (i := 397) (by decide +kernel), List.mem_of_getElem? (i := 398) (by decide +kernel)⟩
theorem lw_p9 : lw_okq (⟨"BurstWords$Dictionary", "sharedAhead", "(I)I"⟩, 4) := ⟨⟨by decide +kernel, by decide +kernel⟩, List.mem_of_getElem? (i := 19) (by decide +kernel), List.mem_of_getElem? (i := 410) (by decide +kernel), List.mem_of_getElem? (i := 411) (by decide +kernel)⟩
theorem lw_p10 : lw_okq (⟨"BurstWords$Dictionary", "opensContainer", "(I)Z"⟩, 4) := ⟨⟨by decide +kernel, by decide +kernel⟩, List.mem_of_getElem? (i := 19) (by decide +kernel), List.mem_of_getElem? (i := 418) (by decide +kernel), List.mem_of_getElem? (i := 419) (by decide +kernel)⟩
theorem lw_p11 : lw_okq (⟨"BurstWords$Dictionary", "isContained", "(I)Z"⟩, 4) := ⟨⟨by decide +kernel, by decide +kernel⟩, List.mem_of_getElem? (i := 19) (by decide +kernel), List.mem_of_getElem? (i := 422) (by decide +kernel), List.mem_of_getElem? (i := 423) (by decide +kernel)⟩
theorem lw_p12 : lw_okq (⟨"BurstWordsModel", "own", "()J"⟩, 16) := ⟨⟨by decide +kernel, by decide +kernel⟩, List.mem_of_getElem? (i := 454) (by decide +kernel), List.mem_of_getElem? (i := 528) (by decide +kernel), List.mem_of_getElem? (i := 529) (by decide +kernel)⟩
theorem lw_p13 : lw_okq (⟨"BurstWordsModel", "placeOf", "(J)I"⟩, 16) := ⟨⟨by decide +kernel, by decide +kernel⟩, List.mem_of_getElem? (i := 454) (by decide +kernel), List.mem_of_getElem? (i := 533) (by decide +kernel), List.mem_of_getElem? (i := 534) (by decide +kernel)⟩
theorem lw_p14 : lw_okq (⟨"BurstWordsModel", "notes", "()V"⟩, 16) := ⟨⟨by decide +kernel, by decide +kernel⟩, List.mem_of_getElem? (i := 454) (by decide +kernel), List.mem_of_getElem? (i := 537) (by decide +kernel), List.mem_of_getElem? (i := 538) (by decide +kernel)⟩
theorem lw_p15 : lw_okq (⟨"BurstWordsModel", "bursts", "(J)V"⟩, 16) := ⟨⟨by decide +kernel, by decide +kernel⟩, List.mem_of_getElem? (i := 454) (by decide +kernel), List.mem_of_getElem? (i := 541) (by decide +kernel), List.mem_of_getElem? (i := 542) (by decide +kernel)⟩
def lw_privs_1 : List (MethodName × Nat) := [(⟨"BurstWords$Dictionary", "has", "(I)Z"⟩, 4), (⟨"BurstWords$History", "loseOldest", "()V"⟩, 4), (⟨"BurstWords$Dictionary", "insert", "(IJI)V"⟩, 4), (⟨"BurstWords$Dictionary", "remove", "(I)V"⟩, 4), (⟨"BurstWords$History", "hasLast", "()Z"⟩, 4), (⟨"BurstWords", "told", "(II)I"⟩, 6), (⟨"BurstWords$Dictionary", "moreFrequent", "(JI)I"⟩, 4), (⟨"BurstWords", "tallyFitting", "()I"⟩, 6), (⟨"BurstWords", "tallyLetters", "(J)V"⟩, 6), (⟨"BurstWords$Dictionary", "sharedAhead", "(I)I"⟩, 4), (⟨"BurstWords$Dictionary", "opensContainer", "(I)Z"⟩, 4), (⟨"BurstWords$Dictionary", "isContained", "(I)Z"⟩, 4), (⟨"BurstWordsModel", "own", "()J"⟩, 16), (⟨"BurstWordsModel", "placeOf", "(J)I"⟩, 16), (⟨"BurstWordsModel", "notes", "()V"⟩, 16), (⟨"BurstWordsModel", "bursts", "(J)V"⟩, 16)]
theorem lw_r1 : ∀ q ∈ lw_privs_1, lw_okq q := List.forall_mem_cons.mpr ⟨lw_p0, List.forall_mem_cons.mpr ⟨lw_p1, List.forall_mem_cons.mpr ⟨lw_p2, List.forall_mem_cons.mpr ⟨lw_p3, List.forall_mem_cons.mpr ⟨lw_p4, List.forall_mem_cons.mpr ⟨lw_p5, List.forall_mem_cons.mpr ⟨lw_p6, List.forall_mem_cons.mpr ⟨lw_p7, List.forall_mem_cons.mpr ⟨lw_p8, List.forall_mem_cons.mpr ⟨lw_p9, List.forall_mem_cons.mpr ⟨lw_p10, List.forall_mem_cons.mpr ⟨lw_p11, List.forall_mem_cons.mpr ⟨lw_p12, List.forall_mem_cons.mpr ⟨lw_p13, List.forall_mem_cons.mpr ⟨lw_p14, List.forall_mem_cons.mpr ⟨lw_p15, fun _ h => absurd h List.not_mem_nil⟩⟩⟩⟩⟩⟩⟩⟩⟩⟩⟩⟩⟩⟩⟩⟩
theorem lw_p16 : lw_okq (⟨"BurstWordsModel", "containerSize", "(J)I"⟩, 16) := ⟨⟨by decide +kernel, by decide +kernel⟩, List.mem_of_getElem? (i := 454) (by decide +kernel), List.mem_of_getElem? (i := 545) (by decide +kernel), List.mem_of_getElem? (i := 546) (by decide +kernel)⟩
theorem lw_p17 : lw_okq (⟨"BurstWordsModel", "isNode", "(J)Z"⟩, 16) := ⟨⟨by decide +kernel, by decide +kernel⟩, List.mem_of_getElem? (i := 454) (by decide +kernel), List.mem_of_getElem? (i := 561) (by decide +kernel), List.mem_of_getElem? (i := 562) (by decide +kernel)⟩
theorem lw_p18 : lw_okq (⟨"BurstWordsModel", "beginning", "(J)I"⟩, 16) := ⟨⟨by decide +kernel, by decide +kernel⟩, List.mem_of_getElem? (i := 454) (by decide +kernel), List.mem_of_getElem? (i := 565) (by decide +kernel), List.mem_of_getElem? (i := 566) (by decide +kernel)⟩
theorem lw_p19 : lw_okq (⟨"BurstWordsModel", "shrinks", "(J)V"⟩, 16) := ⟨⟨by decide +kernel, by decide +kernel⟩, List.mem_of_getElem? (i := 454) (by decide +kernel), List.mem_of_getElem? (i := 576) (by decide +kernel), List.mem_of_getElem? (i := 577) (by decide +kernel)⟩
theorem lw_p20 : lw_okq (⟨"BurstWordsModel", "leaves", "(J)V"⟩, 16) := ⟨⟨by decide +kernel, by decide +kernel⟩, List.mem_of_getElem? (i := 454) (by decide +kernel), List.mem_of_getElem? (i := 580) (by decide +kernel), List.mem_of_getElem? (i := 581) (by decide +kernel)⟩
theorem lw_p21 : lw_okq (⟨"BurstWordsModel", "beginOf", "(J)I"⟩, 16) := ⟨⟨by decide +kernel, by decide +kernel⟩, List.mem_of_getElem? (i := 454) (by decide +kernel), List.mem_of_getElem? (i := 600) (by decide +kernel), List.mem_of_getElem? (i := 601) (by decide +kernel)⟩
theorem lw_p22 : lw_okq (⟨"BurstWordsModel", "depthOf", "(J)I"⟩, 16) := ⟨⟨by decide +kernel, by decide +kernel⟩, List.mem_of_getElem? (i := 454) (by decide +kernel), List.mem_of_getElem? (i := 608) (by decide +kernel), List.mem_of_getElem? (i := 609) (by decide +kernel)⟩
theorem lw_p23 : lw_okq (⟨"BurstWordsModel", "all", "()I"⟩, 16) := ⟨⟨by decide +kernel, by decide +kernel⟩, List.mem_of_getElem? (i := 454) (by decide +kernel), List.mem_of_getElem? (i := 632) (by decide +kernel), List.mem_of_getElem? (i := 633) (by decide +kernel)⟩
theorem lw_p24 : lw_okq (⟨"BurstWordsModel", "tells", "(II)I"⟩, 16) := ⟨⟨by decide +kernel, by decide +kernel⟩, List.mem_of_getElem? (i := 454) (by decide +kernel), List.mem_of_getElem? (i := 646) (by decide +kernel), List.mem_of_getElem? (i := 647) (by decide +kernel)⟩
theorem lw_p25 : lw_okq (⟨"BurstWordsModel", "fits", "(I)Z"⟩, 16) := ⟨⟨by decide +kernel, by decide +kernel⟩, List.mem_of_getElem? (i := 454) (by decide +kernel), List.mem_of_getElem? (i := 674) (by decide +kernel), List.mem_of_getElem? (i := 675) (by decide +kernel)⟩
theorem lw_p26 : lw_okq (⟨"BurstWordsModel", "fitMany", "()I"⟩, 16) := ⟨⟨by decide +kernel, by decide +kernel⟩, List.mem_of_getElem? (i := 454) (by decide +kernel), List.mem_of_getElem? (i := 678) (by decide +kernel), List.mem_of_getElem? (i := 679) (by decide +kernel)⟩
theorem lw_p27 : lw_okq (⟨"BurstWordsModel", "containers", "()I"⟩, 16) := ⟨⟨by decide +kernel, by decide +kernel⟩, List.mem_of_getElem? (i := 454) (by decide +kernel), List.mem_of_getElem? (i := 690) (by decide +kernel), List.mem_of_getElem? (i := 691) (by decide +kernel)⟩
theorem lw_p28 : lw_okq (⟨"BurstWordsModel", "fullest", "()I"⟩, 16) := ⟨⟨by decide +kernel, by decide +kernel⟩, List.mem_of_getElem? (i := 454) (by decide +kernel), List.mem_of_getElem? (i := 694) (by decide +kernel), List.mem_of_getElem? (i := 695) (by decide +kernel)⟩
theorem lw_p29 : lw_okq (⟨"BurstWordsModel", "deepest", "()I"⟩, 16) := ⟨⟨by decide +kernel, by decide +kernel⟩, List.mem_of_getElem? (i := 454) (by decide +kernel), List.mem_of_getElem? (i := 698) (by decide +kernel), List.mem_of_getElem? (i := 699) (by decide +kernel)⟩
theorem lw_p30 : lw_okq (⟨"BurstWordsModel", "letters", "()I"⟩, 16) := ⟨⟨by decide +kernel, by decide +kernel⟩, List.mem_of_getElem? (i := 454) (by decide +kernel), List.mem_of_getElem? (i := 702) (by decide +kernel), List.mem_of_getElem? (i := 703) (by decide +kernel)⟩
theorem lw_p31 : lw_okq (⟨"BurstWordsModel", "shared", "(Z)I"⟩, 16) := ⟨⟨by decide +kernel, by decide +kernel⟩, List.mem_of_getElem? (i := 454) (by decide +kernel), List.mem_of_getElem? (i := 706) (by decide +kernel), List.mem_of_getElem? (i := 707) (by decide +kernel)⟩
def lw_privs_2 : List (MethodName × Nat) := [(⟨"BurstWordsModel", "containerSize", "(J)I"⟩, 16), (⟨"BurstWordsModel", "isNode", "(J)Z"⟩, 16), (⟨"BurstWordsModel", "beginning", "(J)I"⟩, 16), (⟨"BurstWordsModel", "shrinks", "(J)V"⟩, 16), (⟨"BurstWordsModel", "leaves", "(J)V"⟩, 16), (⟨"BurstWordsModel", "beginOf", "(J)I"⟩, 16), (⟨"BurstWordsModel", "depthOf", "(J)I"⟩, 16), (⟨"BurstWordsModel", "all", "()I"⟩, 16), (⟨"BurstWordsModel", "tells", "(II)I"⟩, 16), (⟨"BurstWordsModel", "fits", "(I)Z"⟩, 16), (⟨"BurstWordsModel", "fitMany", "()I"⟩, 16), (⟨"BurstWordsModel", "containers", "()I"⟩, 16), (⟨"BurstWordsModel", "fullest", "()I"⟩, 16), (⟨"BurstWordsModel", "deepest", "()I"⟩, 16), (⟨"BurstWordsModel", "letters", "()I"⟩, 16), (⟨"BurstWordsModel", "shared", "(Z)I"⟩, 16)]
theorem lw_r2 : ∀ q ∈ lw_privs_2, lw_okq q := List.forall_mem_cons.mpr ⟨lw_p16, List.forall_mem_cons.mpr ⟨lw_p17, List.forall_mem_cons.mpr ⟨lw_p18, List.forall_mem_cons.mpr ⟨lw_p19, List.forall_mem_cons.mpr ⟨lw_p20, List.forall_mem_cons.mpr ⟨lw_p21, List.forall_mem_cons.mpr ⟨lw_p22, List.forall_mem_cons.mpr ⟨lw_p23, List.forall_mem_cons.mpr ⟨lw_p24, List.forall_mem_cons.mpr ⟨lw_p25, List.forall_mem_cons.mpr ⟨lw_p26, List.forall_mem_cons.mpr ⟨lw_p27, List.forall_mem_cons.mpr ⟨lw_p28, List.forall_mem_cons.mpr ⟨lw_p29, List.forall_mem_cons.mpr ⟨lw_p30, List.forall_mem_cons.mpr ⟨lw_p31, fun _ h => absurd h List.not_mem_nil⟩⟩⟩⟩⟩⟩⟩⟩⟩⟩⟩⟩⟩⟩⟩⟩
theorem lw_p32 : lw_okq (⟨"BurstWordsModel", "sharedBy", "(I)I"⟩, 16) := ⟨⟨by decide +kernel, by decide +kernel⟩, List.mem_of_getElem? (i := 454) (by decide +kernel), List.mem_of_getElem? (i := 710) (by decide +kernel), List.mem_of_getElem? (i := 711) (by decide +kernel)⟩
def lw_privs_3 : List (MethodName × Nat) := [(⟨"BurstWordsModel", "sharedBy", "(I)I"⟩, 16)]
theorem lw_r3 : ∀ q ∈ lw_privs_3, lw_okq q := List.forall_mem_cons.mpr ⟨lw_p32, fun _ h => absurd h List.not_mem_nil⟩
def lw_privs : List (MethodName × Nat) := lw_privs_1 ++ (lw_privs_2 ++ (lw_privs_3))
def lw_tbl : List Cond := k2_sels lw_privs ++ tables_1
theorem lw_privs_ok : ∀ q ∈ lw_privs, lw_okq q := by
  show ∀ q ∈ lw_privs_1 ++ (lw_privs_2 ++ (lw_privs_3)), lw_okq q
  exact List.forall_mem_append.mpr ⟨lw_r1, List.forall_mem_append.mpr ⟨lw_r2, lw_r3⟩⟩
end
section
/-! ===== BEGIN words of one list among another's, by their places ===== -/
theorem goodIn_r {big : List Cond} (ws : List Cond) (ps : List Nat) (hp : ws = ps.filterMap (fun i => big[i]?)) (h : ws.all goodWord = true) : GoodIn big ws := by
  intro w hw
  have h1 := List.all_eq_true.mp h w hw
  rw [hp] at hw
  obtain ⟨i, -, hi⟩ := List.mem_filterMap.mp hw
  have hm : w ∈ big := by first | exact List.mem_of_getElem? hi | exact List.getElem?_mem hi
  exact ⟨hm, good_of_word h1⟩
theorem goodIn_app {big a b : List Cond} (ha : GoodIn big a) (hb : GoodIn big b) : GoodIn big (a ++ b) := fun w h => (List.mem_append.mp h).elim (ha w) (hb w)
theorem goodIn_ca {big a b : List Cond} {c : Cond} (ha : GoodIn big (c :: a)) (hb : GoodIn big b) : GoodIn big (c :: (a ++ b)) := fun w h => (List.mem_cons.mp h).elim (fun e => ha w (List.mem_cons.mpr (Or.inl e))) (fun h => (List.mem_append.mp h).elim (fun h => ha w (List.mem_cons.mpr (Or.inr h))) (hb w))
theorem goodIn_sub {big ws : List Cond} (hm : ∀ w ∈ ws, w ∈ big) (h : ws.all goodWord = true) : GoodIn big ws := fun w hw => ⟨hm w hw, good_of_word (List.all_eq_true.mp h w hw)⟩
/-! ===== END ===== -/

/-! ===== BEGIN printed: names, fields, word lists, decode rows ===== -/
def RX0 : String := "BurstWords$Dictionary"
def TX0 : u_T := fun k => match k with
  | 0 => ("BurstWords$Dictionary", "words", "[J", true)
  | 1 => ("BurstWords$Dictionary", "often", "[I", true)
  | 2 => ("BurstWords$Dictionary", "depths", "[I", true)
  | _ => ("BurstWords$Dictionary", "size", "I", false)
def tyX0 : Nat → FieldType := fun k => match k with
  | 0 => .array .long
  | 1 => .array .int
  | 2 => .array .int
  | _ => .int
abbrev wsX00 : List Cond := u_ws RX0 TX0 4
theorem nmX0 : ∀ a, a < 4 → ∀ b, b < 4 → a ≠ b → (TX0 a).2.1 ≠ (TX0 b).2.1 := by decide +kernel
theorem tyX0_ok : ∀ k, k < 4 → parseFieldDescriptor (TX0 k).2.2.1 = some (tyX0 k) := by decide +kernel
abbrev cX0_init : ByteArray := prog_2_method_1_code
def yX0_init : MethodName := ⟨RX0, "<init>", "()V"⟩
abbrev cX0_size : ByteArray := prog_2_method_2_code
def yX0_size : MethodName := ⟨RX0, "size", "()I"⟩
abbrev cX0_has : ByteArray := prog_2_method_3_code
def yX0_has : MethodName := ⟨RX0, "has", "(I)Z"⟩
abbrev cX0_wordAt : ByteArray := prog_2_method_4_code
def yX0_wordAt : MethodName := ⟨RX0, "wordAt", "(I)J"⟩
abbrev cX0_oftenAt : ByteArray := prog_2_method_5_code
def yX0_oftenAt : MethodName := ⟨RX0, "oftenAt", "(I)I"⟩
abbrev cX0_depthAt : ByteArray := prog_2_method_6_code
def yX0_depthAt : MethodName := ⟨RX0, "depthAt", "(I)I"⟩
abbrev cX0_placeOf : ByteArray := prog_2_method_7_code
def yX0_placeOf : MethodName := ⟨RX0, "placeOf", "(J)I"⟩
abbrev cX0_oftenOf : ByteArray := prog_2_method_8_code
def yX0_oftenOf : MethodName := ⟨RX0, "oftenOf", "(J)I"⟩
abbrev cX0_put : ByteArray := prog_2_method_9_code
def yX0_put : MethodName := ⟨RX0, "put", "(JI)V"⟩
abbrev cX0_insert : ByteArray := prog_2_method_10_code
def yX0_insert : MethodName := ⟨RX0, "insert", "(IJI)V"⟩
abbrev cX0_remove : ByteArray := prog_2_method_11_code
def yX0_remove : MethodName := ⟨RX0, "remove", "(I)V"⟩
abbrev cX0_depthOf : ByteArray := prog_2_method_12_code
def yX0_depthOf : MethodName := ⟨RX0, "depthOf", "(J)I"⟩
abbrev cX0_sharing : ByteArray := prog_2_method_13_code
def yX0_sharing : MethodName := ⟨RX0, "sharing", "(JI)I"⟩
abbrev cX0_burstDepth : ByteArray := prog_2_method_14_code
def yX0_burstDepth : MethodName := ⟨RX0, "burstDepth", "(JII)I"⟩
abbrev cX0_mergedDepth : ByteArray := prog_2_method_15_code
def yX0_mergedDepth : MethodName := ⟨RX0, "mergedDepth", "(JII)I"⟩
abbrev cX0_reshape : ByteArray := prog_2_method_16_code
def yX0_reshape : MethodName := ⟨RX0, "reshape", "(JII)V"⟩
abbrev cX0_oftenBelow : ByteArray := prog_2_method_17_code
def yX0_oftenBelow : MethodName := ⟨RX0, "oftenBelow", "(I)I"⟩
abbrev cX0_oftenBegun : ByteArray := prog_2_method_18_code
def yX0_oftenBegun : MethodName := ⟨RX0, "oftenBegun", "(J)I"⟩
abbrev cX0_mostSharedWithOthers : ByteArray := prog_2_method_19_code
def yX0_mostSharedWithOthers : MethodName := ⟨RX0, "mostSharedWithOthers", "(J)I"⟩
abbrev cX0_longestIn : ByteArray := prog_2_method_20_code
def yX0_longestIn : MethodName := ⟨RX0, "longestIn", "(J)I"⟩
abbrev cX0_alike : ByteArray := prog_2_method_21_code
def yX0_alike : MethodName := ⟨RX0, "alike", "(JI)I"⟩
abbrev cX0_holderOf : ByteArray := prog_2_method_22_code
def yX0_holderOf : MethodName := ⟨RX0, "holderOf", "(I)I"⟩
abbrev cX0_frequent : ByteArray := prog_2_method_23_code
def yX0_frequent : MethodName := ⟨RX0, "frequent", "(JI)I"⟩
abbrev cX0_moreFrequent : ByteArray := prog_2_method_24_code
def yX0_moreFrequent : MethodName := ⟨RX0, "moreFrequent", "(JI)I"⟩
abbrev cX0_sharedAhead : ByteArray := prog_2_method_25_code
def yX0_sharedAhead : MethodName := ⟨RX0, "sharedAhead", "(I)I"⟩
abbrev cX0_nodes : ByteArray := prog_2_method_26_code
def yX0_nodes : MethodName := ⟨RX0, "nodes", "()I"⟩
abbrev cX0_isContained : ByteArray := prog_2_method_27_code
def yX0_isContained : MethodName := ⟨RX0, "isContained", "(I)Z"⟩
abbrev cX0_opensContainer : ByteArray := prog_2_method_28_code
def yX0_opensContainer : MethodName := ⟨RX0, "opensContainer", "(I)Z"⟩
abbrev cX0_containers : ByteArray := prog_2_method_29_code
def yX0_containers : MethodName := ⟨RX0, "containers", "()I"⟩
abbrev cX0_fullest : ByteArray := prog_2_method_30_code
def yX0_fullest : MethodName := ⟨RX0, "fullest", "()I"⟩
abbrev cX0_deepest : ByteArray := prog_2_method_31_code
def yX0_deepest : MethodName := ⟨RX0, "deepest", "()I"⟩
abbrev cX0_lettersKept : ByteArray := prog_2_method_32_code
def yX0_lettersKept : MethodName := ⟨RX0, "lettersKept", "()I"⟩
abbrev cX0_mostShared : ByteArray := prog_2_method_33_code
def yX0_mostShared : MethodName := ⟨RX0, "mostShared", "()I"⟩
abbrev cX0_pairsSharing : ByteArray := prog_2_method_34_code
def yX0_pairsSharing : MethodName := ⟨RX0, "pairsSharing", "(I)I"⟩
def RX1 : String := "BurstWords$History"
def TX1 : u_T := fun k => match k with
  | 0 => ("BurstWords$History", "words", "[J", true)
  | 1 => ("BurstWords$History", "often", "[I", true)
  | 2 => ("BurstWords$History", "depths", "[I", true)
  | _ => ("BurstWords$History", "size", "I", false)
def tyX1 : Nat → FieldType := fun k => match k with
  | 0 => .array .long
  | 1 => .array .int
  | 2 => .array .int
  | _ => .int
abbrev wsX10 : List Cond := u_ws RX1 TX1 4
theorem nmX1 : ∀ a, a < 4 → ∀ b, b < 4 → a ≠ b → (TX1 a).2.1 ≠ (TX1 b).2.1 := by decide +kernel
theorem tyX1_ok : ∀ k, k < 4 → parseFieldDescriptor (TX1 k).2.2.1 = some (tyX1 k) := by decide +kernel
abbrev cX1_init : ByteArray := prog_3_method_1_code
def yX1_init : MethodName := ⟨RX1, "<init>", "()V"⟩
abbrev cX1_size : ByteArray := prog_3_method_2_code
def yX1_size : MethodName := ⟨RX1, "size", "()I"⟩
abbrev cX1_empty : ByteArray := prog_3_method_3_code
def yX1_empty : MethodName := ⟨RX1, "empty", "()V"⟩
abbrev cX1_push : ByteArray := prog_3_method_4_code
def yX1_push : MethodName := ⟨RX1, "push", "(JII)V"⟩
abbrev cX1_loseOldest : ByteArray := prog_3_method_5_code
def yX1_loseOldest : MethodName := ⟨RX1, "loseOldest", "()V"⟩
abbrev cX1_hasLast : ByteArray := prog_3_method_6_code
def yX1_hasLast : MethodName := ⟨RX1, "hasLast", "()Z"⟩
abbrev cX1_lastWord : ByteArray := prog_3_method_7_code
def yX1_lastWord : MethodName := ⟨RX1, "lastWord", "()J"⟩
abbrev cX1_lastOften : ByteArray := prog_3_method_8_code
def yX1_lastOften : MethodName := ⟨RX1, "lastOften", "()I"⟩
abbrev cX1_lastDepth : ByteArray := prog_3_method_9_code
def yX1_lastDepth : MethodName := ⟨RX1, "lastDepth", "()I"⟩
abbrev cX1_drop : ByteArray := prog_3_method_10_code
def yX1_drop : MethodName := ⟨RX1, "drop", "()V"⟩
def RX2 : String := "BurstWords$Sightings"
def TX2 : u_T := fun k => match k with
  | 0 => ("BurstWords$Sightings", "places", "[I", true)
  | 1 => ("BurstWords$Sightings", "letters", "[I", true)
  | 2 => ("BurstWords$Sightings", "so", "[Z", true)
  | _ => ("BurstWords$Sightings", "size", "I", false)
def tyX2 : Nat → FieldType := fun k => match k with
  | 0 => .array .int
  | 1 => .array .int
  | 2 => .array .boolean
  | _ => .int
abbrev wsX20 : List Cond := u_ws RX2 TX2 4
theorem nmX2 : ∀ a, a < 4 → ∀ b, b < 4 → a ≠ b → (TX2 a).2.1 ≠ (TX2 b).2.1 := by decide +kernel
theorem tyX2_ok : ∀ k, k < 4 → parseFieldDescriptor (TX2 k).2.2.1 = some (tyX2 k) := by decide +kernel
abbrev cX2_init : ByteArray := prog_4_method_1_code
def yX2_init : MethodName := ⟨RX2, "<init>", "()V"⟩
abbrev cX2_size : ByteArray := prog_4_method_2_code
def yX2_size : MethodName := ⟨RX2, "size", "()I"⟩
abbrev cX2_empty : ByteArray := prog_4_method_3_code
def yX2_empty : MethodName := ⟨RX2, "empty", "()V"⟩
abbrev cX2_push : ByteArray := prog_4_method_4_code
def yX2_push : MethodName := ⟨RX2, "push", "(IIZ)V"⟩
abbrev cX2_allow : ByteArray := prog_4_method_5_code
def yX2_allow : MethodName := ⟨RX2, "allow", "(J)Z"⟩
def RX3 : String := "BurstWords$Spelling"
def TX3 : u_T := fun k => match k with
  | _ => ("", "", "", false)
def tyX3 : Nat → FieldType := fun k => match k with
  | _ => .int
abbrev wsX30 : List Cond := u_ws RX3 TX3 0
theorem nmX3 : ∀ a, a < 0 → ∀ b, b < 0 → a ≠ b → (TX3 a).2.1 ≠ (TX3 b).2.1 := by decide +kernel
theorem tyX3_ok : ∀ k, k < 0 → parseFieldDescriptor (TX3 k).2.2.1 = some (tyX3 k) := by decide +kernel
abbrev cX3_isLetter : ByteArray := prog_5_method_2_code
def yX3_isLetter : MethodName := ⟨RX3, "isLetter", "(I)Z"⟩
abbrev cX3_letterAt : ByteArray := prog_5_method_3_code
def yX3_letterAt : MethodName := ⟨RX3, "letterAt", "(JI)I"⟩
abbrev cX3_lengthOf : ByteArray := prog_5_method_4_code
def yX3_lengthOf : MethodName := ⟨RX3, "lengthOf", "(J)I"⟩
abbrev cX3_extended : ByteArray := prog_5_method_5_code
def yX3_extended : MethodName := ⟨RX3, "extended", "(JII)J"⟩
abbrev cX3_sharedBy : ByteArray := prog_5_method_6_code
def yX3_sharedBy : MethodName := ⟨RX3, "sharedBy", "(JJ)I"⟩
abbrev cX3_begins : ByteArray := prog_5_method_7_code
def yX3_begins : MethodName := ⟨RX3, "begins", "(JJ)Z"⟩
abbrev cX3_differences : ByteArray := prog_5_method_8_code
def yX3_differences : MethodName := ⟨RX3, "differences", "(JJ)I"⟩
abbrev cX3_shiftOf : ByteArray := prog_5_method_9_code
def yX3_shiftOf : MethodName := ⟨RX3, "shiftOf", "(I)I"⟩
def RX4 : String := "BurstWords"
def TX4 : u_T := fun k => match k with
  | 0 => ("BurstWords", "dictionary", "LBurstWords$Dictionary;", true)
  | 1 => ("BurstWords", "history", "LBurstWords$History;", true)
  | 2 => ("BurstWords", "sightings", "LBurstWords$Sightings;", true)
  | 3 => ("BurstWords", "tally", "[I", true)
  | 4 => ("BurstWords", "word", "J", false)
  | _ => ("BurstWords", "bound", "I", false)
def tyX4 : Nat → FieldType := fun k => match k with
  | 0 => .object "BurstWords$Dictionary"
  | 1 => .object "BurstWords$History"
  | 2 => .object "BurstWords$Sightings"
  | 3 => .array .int
  | 4 => .long
  | _ => .int
abbrev wsX40 : List Cond := u_ws RX4 TX4 6
theorem nmX4 : ∀ a, a < 6 → ∀ b, b < 6 → a ≠ b → (TX4 a).2.1 ≠ (TX4 b).2.1 := by decide +kernel
theorem tyX4_ok : ∀ k, k < 6 → parseFieldDescriptor (TX4 k).2.2.1 = some (tyX4 k) := by decide +kernel
abbrev cX4_init : ByteArray := prog_1_method_1_code
def yX4_init : MethodName := ⟨RX4, "<init>", "()V"⟩
abbrev cX4_type : ByteArray := prog_1_method_2_code
def yX4_type : MethodName := ⟨RX4, "type", "(I)I"⟩
abbrev cX4_clear : ByteArray := prog_1_method_3_code
def yX4_clear : MethodName := ⟨RX4, "clear", "()I"⟩
abbrev cX4_bounds : ByteArray := prog_1_method_4_code
def yX4_bounds : MethodName := ⟨RX4, "bounds", "(I)I"⟩
abbrev cX4_adds : ByteArray := prog_1_method_5_code
def yX4_adds : MethodName := ⟨RX4, "adds", "()I"⟩
abbrev cX4_takes : ByteArray := prog_1_method_6_code
def yX4_takes : MethodName := ⟨RX4, "takes", "()I"⟩
abbrev cX4_undo : ByteArray := prog_1_method_7_code
def yX4_undo : MethodName := ⟨RX4, "undo", "()I"⟩
abbrev cX4_times : ByteArray := prog_1_method_8_code
def yX4_times : MethodName := ⟨RX4, "times", "()I"⟩
abbrev cX4_rank : ByteArray := prog_1_method_9_code
def yX4_rank : MethodName := ⟨RX4, "rank", "()I"⟩
abbrev cX4_begin : ByteArray := prog_1_method_10_code
def yX4_begin : MethodName := ⟨RX4, "begin", "()I"⟩
abbrev cX4_depth : ByteArray := prog_1_method_11_code
def yX4_depth : MethodName := ⟨RX4, "depth", "()I"⟩
abbrev cX4_container : ByteArray := prog_1_method_12_code
def yX4_container : MethodName := ⟨RX4, "container", "(I)I"⟩
abbrev cX4_telling : ByteArray := prog_1_method_13_code
def yX4_telling : MethodName := ⟨RX4, "telling", "()I"⟩
abbrev cX4_longest : ByteArray := prog_1_method_14_code
def yX4_longest : MethodName := ⟨RX4, "longest", "()I"⟩
abbrev cX4_like : ByteArray := prog_1_method_15_code
def yX4_like : MethodName := ⟨RX4, "like", "(I)I"⟩
abbrev cX4_odds : ByteArray := prog_1_method_16_code
def yX4_odds : MethodName := ⟨RX4, "odds", "(I)I"⟩
abbrev cX4_kth : ByteArray := prog_1_method_17_code
def yX4_kth : MethodName := ⟨RX4, "kth", "(II)I"⟩
abbrev cX4_unlike : ByteArray := prog_1_method_18_code
def yX4_unlike : MethodName := ⟨RX4, "unlike", "(II)I"⟩
abbrev cX4_next : ByteArray := prog_1_method_19_code
def yX4_next : MethodName := ⟨RX4, "next", "(I)I"⟩
abbrev cX4_top : ByteArray := prog_1_method_20_code
def yX4_top : MethodName := ⟨RX4, "top", "(II)I"⟩
abbrev cX4_sees : ByteArray := prog_1_method_21_code
def yX4_sees : MethodName := ⟨RX4, "sees", "(III)I"⟩
abbrev cX4_forget : ByteArray := prog_1_method_22_code
def yX4_forget : MethodName := ⟨RX4, "forget", "()I"⟩
abbrev cX4_fit : ByteArray := prog_1_method_23_code
def yX4_fit : MethodName := ⟨RX4, "fit", "(I)I"⟩
abbrev cX4_ask : ByteArray := prog_1_method_24_code
def yX4_ask : MethodName := ⟨RX4, "ask", "()I"⟩
abbrev cX4_count : ByteArray := prog_1_method_25_code
def yX4_count : MethodName := ⟨RX4, "count", "(I)I"⟩
abbrev cX4_digest : ByteArray := prog_1_method_26_code
def yX4_digest : MethodName := ⟨RX4, "digest", "()J"⟩
abbrev cX4_isHalf : ByteArray := prog_1_method_27_code
def yX4_isHalf : MethodName := ⟨RX4, "isHalf", "(I)Z"⟩
abbrev cX4_isAsked : ByteArray := prog_1_method_28_code
def yX4_isAsked : MethodName := ⟨RX4, "isAsked", "(I)Z"⟩
abbrev cX4_commonDivisor : ByteArray := prog_1_method_29_code
def yX4_commonDivisor : MethodName := ⟨RX4, "commonDivisor", "(II)I"⟩
abbrev cX4_told : ByteArray := prog_1_method_30_code
def yX4_told : MethodName := ⟨RX4, "told", "(II)I"⟩
abbrev cX4_tallyFitting : ByteArray := prog_1_method_31_code
def yX4_tallyFitting : MethodName := ⟨RX4, "tallyFitting", "()I"⟩
abbrev cX4_tallyLetters : ByteArray := prog_1_method_32_code
def yX4_tallyLetters : MethodName := ⟨RX4, "tallyLetters", "(J)V"⟩
def RX5 : String := "BurstWordsModel"
def TX5 : u_T := fun k => match k with
  | 0 => ("BurstWordsModel", "thrown", "I", false)
  | 1 => ("BurstWordsModel", "typed", "[I", true)
  | 2 => ("BurstWordsModel", "typedMany", "I", false)
  | 3 => ("BurstWordsModel", "b", "I", false)
  | 4 => ("BurstWordsModel", "word", "[J", true)
  | 5 => ("BurstWordsModel", "often", "[I", true)
  | 6 => ("BurstWordsModel", "many", "I", false)
  | 7 => ("BurstWordsModel", "node", "[J", true)
  | 8 => ("BurstWordsModel", "nodeMany", "I", false)
  | 9 => ("BurstWordsModel", "undos", "[J", true)
  | 10 => ("BurstWordsModel", "undoMany", "I", false)
  | 11 => ("BurstWordsModel", "seenAt", "[I", true)
  | 12 => ("BurstWordsModel", "seenLetter", "[I", true)
  | 13 => ("BurstWordsModel", "seenIs", "[I", true)
  | 14 => ("BurstWordsModel", "seenMany", "I", false)
  | _ => ("BurstWordsModel", "taken", "[Z", true)
def tyX5 : Nat → FieldType := fun k => match k with
  | 0 => .int
  | 1 => .array .int
  | 2 => .int
  | 3 => .int
  | 4 => .array .long
  | 5 => .array .int
  | 6 => .int
  | 7 => .array .long
  | 8 => .int
  | 9 => .array .long
  | 10 => .int
  | 11 => .array .int
  | 12 => .array .int
  | 13 => .array .int
  | 14 => .int
  | _ => .array .boolean
abbrev wsX50 : List Cond := u_ws RX5 TX5 16
theorem nmX5 : ∀ a, a < 16 → ∀ b, b < 16 → a ≠ b → (TX5 a).2.1 ≠ (TX5 b).2.1 := by decide +kernel
theorem tyX5_ok : ∀ k, k < 16 → parseFieldDescriptor (TX5 k).2.2.1 = some (tyX5 k) := by decide +kernel
abbrev cX5_init : ByteArray := prog_7_method_1_code
def yX5_init : MethodName := ⟨RX5, "<init>", "()V"⟩
abbrev cX5_in : ByteArray := prog_7_method_3_code
def yX5_in : MethodName := ⟨RX5, "in", "(III)Z"⟩
abbrev cX5_unit : ByteArray := prog_7_method_4_code
def yX5_unit : MethodName := ⟨RX5, "unit", "(I)J"⟩
abbrev cX5_head : ByteArray := prog_7_method_5_code
def yX5_head : MethodName := ⟨RX5, "head", "(JI)J"⟩
abbrev cX5_sign : ByteArray := prog_7_method_6_code
def yX5_sign : MethodName := ⟨RX5, "sign", "(JI)I"⟩
abbrev cX5_size : ByteArray := prog_7_method_7_code
def yX5_size : MethodName := ⟨RX5, "size", "(J)I"⟩
abbrev cX5_own : ByteArray := prog_7_method_8_code
def yX5_own : MethodName := ⟨RX5, "own", "()J"⟩
abbrev cX5_begins : ByteArray := prog_7_method_9_code
def yX5_begins : MethodName := ⟨RX5, "begins", "(JJ)Z"⟩
abbrev cX5_placeOf : ByteArray := prog_7_method_10_code
def yX5_placeOf : MethodName := ⟨RX5, "placeOf", "(J)I"⟩
abbrev cX5_beginning : ByteArray := prog_7_method_11_code
def yX5_beginning : MethodName := ⟨RX5, "beginning", "(J)I"⟩
abbrev cX5_isNode : ByteArray := prog_7_method_12_code
def yX5_isNode : MethodName := ⟨RX5, "isNode", "(J)Z"⟩
abbrev cX5_containerSize : ByteArray := prog_7_method_13_code
def yX5_containerSize : MethodName := ⟨RX5, "containerSize", "(J)I"⟩
abbrev cX5_depthOf : ByteArray := prog_7_method_14_code
def yX5_depthOf : MethodName := ⟨RX5, "depthOf", "(J)I"⟩
abbrev cX5_type : ByteArray := prog_7_method_15_code
def yX5_type : MethodName := ⟨RX5, "type", "(I)I"⟩
abbrev cX5_clear : ByteArray := prog_7_method_16_code
def yX5_clear : MethodName := ⟨RX5, "clear", "()I"⟩
abbrev cX5_bounds : ByteArray := prog_7_method_17_code
def yX5_bounds : MethodName := ⟨RX5, "bounds", "(I)I"⟩
abbrev cX5_notes : ByteArray := prog_7_method_18_code
def yX5_notes : MethodName := ⟨RX5, "notes", "()V"⟩
abbrev cX5_bursts : ByteArray := prog_7_method_19_code
def yX5_bursts : MethodName := ⟨RX5, "bursts", "(J)V"⟩
abbrev cX5_adds : ByteArray := prog_7_method_20_code
def yX5_adds : MethodName := ⟨RX5, "adds", "()I"⟩
abbrev cX5_leaves : ByteArray := prog_7_method_21_code
def yX5_leaves : MethodName := ⟨RX5, "leaves", "(J)V"⟩
abbrev cX5_shrinks : ByteArray := prog_7_method_22_code
def yX5_shrinks : MethodName := ⟨RX5, "shrinks", "(J)V"⟩
abbrev cX5_takes : ByteArray := prog_7_method_23_code
def yX5_takes : MethodName := ⟨RX5, "takes", "()I"⟩
abbrev cX5_undo : ByteArray := prog_7_method_24_code
def yX5_undo : MethodName := ⟨RX5, "undo", "()I"⟩
abbrev cX5_times : ByteArray := prog_7_method_25_code
def yX5_times : MethodName := ⟨RX5, "times", "()I"⟩
abbrev cX5_rank : ByteArray := prog_7_method_26_code
def yX5_rank : MethodName := ⟨RX5, "rank", "()I"⟩
abbrev cX5_beginOf : ByteArray := prog_7_method_27_code
def yX5_beginOf : MethodName := ⟨RX5, "beginOf", "(J)I"⟩
abbrev cX5_begin : ByteArray := prog_7_method_28_code
def yX5_begin : MethodName := ⟨RX5, "begin", "()I"⟩
abbrev cX5_depth : ByteArray := prog_7_method_29_code
def yX5_depth : MethodName := ⟨RX5, "depth", "()I"⟩
abbrev cX5_container : ByteArray := prog_7_method_30_code
def yX5_container : MethodName := ⟨RX5, "container", "(I)I"⟩
abbrev cX5_telling : ByteArray := prog_7_method_31_code
def yX5_telling : MethodName := ⟨RX5, "telling", "()I"⟩
abbrev cX5_longest : ByteArray := prog_7_method_32_code
def yX5_longest : MethodName := ⟨RX5, "longest", "()I"⟩
abbrev cX5_like : ByteArray := prog_7_method_33_code
def yX5_like : MethodName := ⟨RX5, "like", "(I)I"⟩
abbrev cX5_gcd : ByteArray := prog_7_method_34_code
def yX5_gcd : MethodName := ⟨RX5, "gcd", "(II)I"⟩
abbrev cX5_all : ByteArray := prog_7_method_35_code
def yX5_all : MethodName := ⟨RX5, "all", "()I"⟩
abbrev cX5_odds : ByteArray := prog_7_method_36_code
def yX5_odds : MethodName := ⟨RX5, "odds", "(I)I"⟩
abbrev cX5_tells : ByteArray := prog_7_method_37_code
def yX5_tells : MethodName := ⟨RX5, "tells", "(II)I"⟩
abbrev cX5_isAt : ByteArray := prog_7_method_38_code
def yX5_isAt : MethodName := ⟨RX5, "isAt", "(I)Z"⟩
abbrev cX5_kth : ByteArray := prog_7_method_39_code
def yX5_kth : MethodName := ⟨RX5, "kth", "(II)I"⟩
abbrev cX5_unlike : ByteArray := prog_7_method_40_code
def yX5_unlike : MethodName := ⟨RX5, "unlike", "(II)I"⟩
abbrev cX5_next : ByteArray := prog_7_method_41_code
def yX5_next : MethodName := ⟨RX5, "next", "(I)I"⟩
abbrev cX5_top : ByteArray := prog_7_method_42_code
def yX5_top : MethodName := ⟨RX5, "top", "(II)I"⟩
abbrev cX5_sees : ByteArray := prog_7_method_43_code
def yX5_sees : MethodName := ⟨RX5, "sees", "(III)I"⟩
abbrev cX5_forget : ByteArray := prog_7_method_44_code
def yX5_forget : MethodName := ⟨RX5, "forget", "()I"⟩
abbrev cX5_fits : ByteArray := prog_7_method_45_code
def yX5_fits : MethodName := ⟨RX5, "fits", "(I)Z"⟩
abbrev cX5_fitMany : ByteArray := prog_7_method_46_code
def yX5_fitMany : MethodName := ⟨RX5, "fitMany", "()I"⟩
abbrev cX5_fit : ByteArray := prog_7_method_47_code
def yX5_fit : MethodName := ⟨RX5, "fit", "(I)I"⟩
abbrev cX5_ask : ByteArray := prog_7_method_48_code
def yX5_ask : MethodName := ⟨RX5, "ask", "()I"⟩
abbrev cX5_containers : ByteArray := prog_7_method_49_code
def yX5_containers : MethodName := ⟨RX5, "containers", "()I"⟩
abbrev cX5_fullest : ByteArray := prog_7_method_50_code
def yX5_fullest : MethodName := ⟨RX5, "fullest", "()I"⟩
abbrev cX5_deepest : ByteArray := prog_7_method_51_code
def yX5_deepest : MethodName := ⟨RX5, "deepest", "()I"⟩
abbrev cX5_letters : ByteArray := prog_7_method_52_code
def yX5_letters : MethodName := ⟨RX5, "letters", "()I"⟩
abbrev cX5_sharedBy : ByteArray := prog_7_method_53_code
def yX5_sharedBy : MethodName := ⟨RX5, "sharedBy", "(I)I"⟩
abbrev cX5_shared : ByteArray := prog_7_method_54_code
def yX5_shared : MethodName := ⟨RX5, "shared", "(Z)I"⟩
abbrev cX5_count : ByteArray := prog_7_method_55_code
def yX5_count : MethodName := ⟨RX5, "count", "(I)I"⟩
abbrev cX5_digest : ByteArray := prog_7_method_56_code
def yX5_digest : MethodName := ⟨RX5, "digest", "()J"⟩
def RJ9 : String := "java/lang/Math"
def TJ9 : u_T := fun k => match k with
  | _ => ("", "", "", false)
def tyJ9 : Nat → FieldType := fun k => match k with
  | _ => .int
abbrev wsJ90 : List Cond := u_ws RJ9 TJ9 0
theorem nmJ9 : ∀ a, a < 0 → ∀ b, b < 0 → a ≠ b → (TJ9 a).2.1 ≠ (TJ9 b).2.1 := by decide +kernel
theorem tyJ9_ok : ∀ k, k < 0 → parseFieldDescriptor (TJ9 k).2.2.1 = some (tyJ9 k) := by decide +kernel
abbrev cJ9_max_7cf53 : ByteArray := prog_8_method_65_code
def yJ9_max_7cf53 : MethodName := ⟨RJ9, "max", "(II)I"⟩
abbrev cJ9_min_7cf53 : ByteArray := prog_8_method_69_code
def yJ9_min_7cf53 : MethodName := ⟨RJ9, "min", "(II)I"⟩
def RJ10 : String := "java/lang/System"
def TJ10 : u_T := fun k => match k with
  | _ => ("", "", "", false)
def tyJ10 : Nat → FieldType := fun k => match k with
  | _ => .int
abbrev wsJ100 : List Cond := u_ws RJ10 TJ10 0
theorem nmJ10 : ∀ a, a < 0 → ∀ b, b < 0 → a ≠ b → (TJ10 a).2.1 ≠ (TJ10 b).2.1 := by decide +kernel
theorem tyJ10_ok : ∀ k, k < 0 → parseFieldDescriptor (TJ10 k).2.2.1 = some (tyJ10 k) := by decide +kernel
def RJ7 : String := "java/util/Arrays"
def TJ7 : u_T := fun k => match k with
  | _ => ("", "", "", false)
def tyJ7 : Nat → FieldType := fun k => match k with
  | _ => .int
abbrev wsJ70 : List Cond := u_ws RJ7 TJ7 0
theorem nmJ7 : ∀ a, a < 0 → ∀ b, b < 0 → a ≠ b → (TJ7 a).2.1 ≠ (TJ7 b).2.1 := by decide +kernel
theorem tyJ7_ok : ∀ k, k < 0 → parseFieldDescriptor (TJ7 k).2.2.1 = some (tyJ7 k) := by decide +kernel
abbrev cJ7_fill_53178 : ByteArray := prog_10_method_103_code
def yJ7_fill_53178 : MethodName := ⟨RJ7, "fill", "([II)V"⟩
def RL : String := "BurstWordsLaw"
abbrev cL_law : ByteArray := code
def yL_law : MethodName := ⟨RL, "law", "([I)Z"⟩
def wsX0_init : List Cond := .code yX0_init cX0_init 1 none :: ([.methodLink RX0 3 objectInit, .instanceMethod objectInit, .code objectInit ⟨#[0xb1]⟩ 1 none, .arrayClass .long, .fieldLink RX0 9 "BurstWords$Dictionary" "words" "[J", .arrayClass .int, .fieldLink RX0 15 "BurstWords$Dictionary" "often" "[I", .fieldLink RX0 19 "BurstWords$Dictionary" "depths" "[I", .fieldLink RX0 22 "BurstWords$Dictionary" "size" "I"] ++ wsX00)
def wsX0_size : List Cond := .code yX0_size cX0_size 1 (some .int) :: ([.fieldLink RX0 22 "BurstWords$Dictionary" "size" "I"] ++ wsX00)
def wsX0_has : List Cond := .code yX0_has cX0_has 2 (some .boolean) :: ([.fieldLink RX0 22 "BurstWords$Dictionary" "size" "I"] ++ wsX00)
def wsX0_wordAt : List Cond := .code yX0_wordAt cX0_wordAt 2 (some .long) :: ([.fieldLink RX0 9 "BurstWords$Dictionary" "words" "[J", .methodLink RX0 26 yX0_has, .instanceMethod yX0_has, .selects RX0 yX0_has yX0_has, .initialized RX0, .code yX0_has cX0_has 2 (some .boolean), .fieldLink RX0 22 "BurstWords$Dictionary" "size" "I"] ++ wsX00)
def wsX0_oftenAt : List Cond := .code yX0_oftenAt cX0_oftenAt 2 (some .int) :: ([.fieldLink RX0 15 "BurstWords$Dictionary" "often" "[I", .methodLink RX0 26 yX0_has, .instanceMethod yX0_has, .selects RX0 yX0_has yX0_has, .initialized RX0, .code yX0_has cX0_has 2 (some .boolean), .fieldLink RX0 22 "BurstWords$Dictionary" "size" "I"] ++ wsX00)
def wsX0_depthAt : List Cond := .code yX0_depthAt cX0_depthAt 2 (some .int) :: ([.fieldLink RX0 19 "BurstWords$Dictionary" "depths" "[I", .methodLink RX0 26 yX0_has, .instanceMethod yX0_has, .selects RX0 yX0_has yX0_has, .initialized RX0, .code yX0_has cX0_has 2 (some .boolean), .fieldLink RX0 22 "BurstWords$Dictionary" "size" "I"] ++ wsX00)
def wsX0_placeOf : List Cond := .code yX0_placeOf cX0_placeOf 4 (some .int) :: ([.fieldLink RX0 22 "BurstWords$Dictionary" "size" "I", .methodLink RX0 32 yX0_wordAt, .instanceMethod yX0_wordAt, .selects RX0 yX0_wordAt yX0_wordAt, .initialized RX0, .code yX0_wordAt cX0_wordAt 2 (some .long), .fieldLink RX0 9 "BurstWords$Dictionary" "words" "[J", .methodLink RX0 26 yX0_has, .instanceMethod yX0_has, .selects RX0 yX0_has yX0_has, .code yX0_has cX0_has 2 (some .boolean)] ++ wsX00)
def wsX0_oftenOf : List Cond := .code yX0_oftenOf cX0_oftenOf 4 (some .int) :: ([.methodLink RX0 36 yX0_placeOf, .instanceMethod yX0_placeOf, .selects RX0 yX0_placeOf yX0_placeOf, .initialized RX0, .code yX0_placeOf cX0_placeOf 4 (some .int), .fieldLink RX0 22 "BurstWords$Dictionary" "size" "I", .methodLink RX0 32 yX0_wordAt, .instanceMethod yX0_wordAt, .selects RX0 yX0_wordAt yX0_wordAt, .code yX0_wordAt cX0_wordAt 2 (some .long), .fieldLink RX0 9 "BurstWords$Dictionary" "words" "[J", .methodLink RX0 26 yX0_has, .instanceMethod yX0_has, .selects RX0 yX0_has yX0_has, .code yX0_has cX0_has 2 (some .boolean), .methodLink RX0 40 yX0_oftenAt, .instanceMethod yX0_oftenAt, .selects RX0 yX0_oftenAt yX0_oftenAt, .code yX0_oftenAt cX0_oftenAt 2 (some .int), .fieldLink RX0 15 "BurstWords$Dictionary" "often" "[I"] ++ wsX00)
def wsX3_shiftOf : List Cond := .code yX3_shiftOf cX3_shiftOf 1 (some .int) :: ([])
def wsX3_letterAt : List Cond := .code yX3_letterAt cX3_letterAt 3 (some .int) :: ([.methodLink RX3 9 yX3_shiftOf, .static yX3_shiftOf, .initialized RX3, .code yX3_shiftOf cX3_shiftOf 1 (some .int)])
def wsX3_sharedBy : List Cond := .code yX3_sharedBy cX3_sharedBy 5 (some .int) :: ([.methodLink RX3 15 yX3_letterAt, .static yX3_letterAt, .initialized RX3, .code yX3_letterAt cX3_letterAt 3 (some .int), .methodLink RX3 9 yX3_shiftOf, .static yX3_shiftOf, .code yX3_shiftOf cX3_shiftOf 1 (some .int)])
def wsX0_depthOf_r1 : List Cond := [Cond.fieldLink RX0 22 "BurstWords$Dictionary" "size" "I", Cond.methodLink RX0 68 Lib.Math.min.name, Cond.static Lib.Math.min.name, Cond.initialized "java/lang/Math", Cond.code Lib.Math.min.name Lib.Math.min.code 2 (some .int), Cond.methodLink RX0 74 Lib.Math.max.name, Cond.static Lib.Math.max.name, Cond.code Lib.Math.max.name Lib.Math.max.code 2 (some .int), Cond.methodLink RX0 32 yX0_wordAt, Cond.instanceMethod yX0_wordAt, Cond.selects RX0 yX0_wordAt yX0_wordAt, Cond.initialized RX0, Cond.code yX0_wordAt cX0_wordAt 2 (some .long), Cond.fieldLink RX0 9 "BurstWords$Dictionary" "words" "[J", Cond.methodLink RX0 26 yX0_has, Cond.instanceMethod yX0_has, Cond.selects RX0 yX0_has yX0_has, Cond.code yX0_has cX0_has 2 (some .boolean), Cond.methodLink RX0 61 yX3_sharedBy, Cond.static yX3_sharedBy, Cond.initialized RX3, Cond.code yX3_sharedBy cX3_sharedBy 5 (some .int), Cond.methodLink RX3 15 yX3_letterAt, Cond.static yX3_letterAt]
def wsX0_depthOf_r2 : List Cond := [Cond.code yX3_letterAt cX3_letterAt 3 (some .int), Cond.methodLink RX3 9 yX3_shiftOf, Cond.static yX3_shiftOf, Cond.code yX3_shiftOf cX3_shiftOf 1 (some .int), Cond.methodLink RX0 65 yX0_depthAt, Cond.instanceMethod yX0_depthAt, Cond.selects RX0 yX0_depthAt yX0_depthAt, Cond.code yX0_depthAt cX0_depthAt 2 (some .int), Cond.fieldLink RX0 19 "BurstWords$Dictionary" "depths" "[I"]
def wsX0_depthOf : List Cond := .code yX0_depthOf cX0_depthOf 6 (some .int) :: ((wsX0_depthOf_r1 ++ wsX0_depthOf_r2) ++ wsX00)
def wsX0_insert_r1 : List Cond := [Cond.fieldLink RX0 22 "BurstWords$Dictionary" "size" "I", Cond.fieldLink RX0 9 "BurstWords$Dictionary" "words" "[J", Cond.methodLink RX0 55 arraycopyName, Cond.native arraycopyName, Cond.static arraycopyName, Cond.initialized "java/lang/System", Cond.fieldLink RX0 15 "BurstWords$Dictionary" "often" "[I", Cond.fieldLink RX0 19 "BurstWords$Dictionary" "depths" "[I", Cond.methodLink RX0 52 yX0_depthOf, Cond.instanceMethod yX0_depthOf, Cond.selects RX0 yX0_depthOf yX0_depthOf, Cond.initialized RX0, Cond.code yX0_depthOf cX0_depthOf 6 (some .int), Cond.methodLink RX0 68 Lib.Math.min.name, Cond.static Lib.Math.min.name, Cond.initialized "java/lang/Math", Cond.code Lib.Math.min.name Lib.Math.min.code 2 (some .int), Cond.methodLink RX0 74 Lib.Math.max.name, Cond.static Lib.Math.max.name, Cond.code Lib.Math.max.name Lib.Math.max.code 2 (some .int), Cond.methodLink RX0 32 yX0_wordAt, Cond.instanceMethod yX0_wordAt, Cond.selects RX0 yX0_wordAt yX0_wordAt, Cond.code yX0_wordAt cX0_wordAt 2 (some .long)]
def wsX0_insert_r2 : List Cond := [Cond.methodLink RX0 26 yX0_has, Cond.instanceMethod yX0_has, Cond.selects RX0 yX0_has yX0_has, Cond.code yX0_has cX0_has 2 (some .boolean), Cond.methodLink RX0 61 yX3_sharedBy, Cond.static yX3_sharedBy, Cond.initialized RX3, Cond.code yX3_sharedBy cX3_sharedBy 5 (some .int), Cond.methodLink RX3 15 yX3_letterAt, Cond.static yX3_letterAt, Cond.code yX3_letterAt cX3_letterAt 3 (some .int), Cond.methodLink RX3 9 yX3_shiftOf, Cond.static yX3_shiftOf, Cond.code yX3_shiftOf cX3_shiftOf 1 (some .int), Cond.methodLink RX0 65 yX0_depthAt, Cond.instanceMethod yX0_depthAt, Cond.selects RX0 yX0_depthAt yX0_depthAt, Cond.code yX0_depthAt cX0_depthAt 2 (some .int)]
def wsX0_insert : List Cond := .code yX0_insert cX0_insert 7 none :: ((wsX0_insert_r1 ++ wsX0_insert_r2) ++ wsX00)
def wsX0_remove : List Cond := .code yX0_remove cX0_remove 3 none :: ([.fieldLink RX0 22 "BurstWords$Dictionary" "size" "I", .fieldLink RX0 9 "BurstWords$Dictionary" "words" "[J", .methodLink RX0 55 arraycopyName, .native arraycopyName, .static arraycopyName, .initialized "java/lang/System", .fieldLink RX0 15 "BurstWords$Dictionary" "often" "[I", .fieldLink RX0 19 "BurstWords$Dictionary" "depths" "[I", .methodLink RX0 26 yX0_has, .instanceMethod yX0_has, .selects RX0 yX0_has yX0_has, .initialized RX0, .code yX0_has cX0_has 2 (some .boolean)] ++ wsX00)
def wsX0_put_r1 : List Cond := [Cond.fieldLink RX0 9 "BurstWords$Dictionary" "words" "[J", Cond.fieldLink RX0 15 "BurstWords$Dictionary" "often" "[I", Cond.methodLink RX0 36 yX0_placeOf, Cond.instanceMethod yX0_placeOf, Cond.selects RX0 yX0_placeOf yX0_placeOf, Cond.initialized RX0, Cond.code yX0_placeOf cX0_placeOf 4 (some .int), Cond.fieldLink RX0 22 "BurstWords$Dictionary" "size" "I", Cond.methodLink RX0 32 yX0_wordAt, Cond.instanceMethod yX0_wordAt, Cond.selects RX0 yX0_wordAt yX0_wordAt, Cond.code yX0_wordAt cX0_wordAt 2 (some .long), Cond.methodLink RX0 26 yX0_has, Cond.instanceMethod yX0_has, Cond.selects RX0 yX0_has yX0_has, Cond.code yX0_has cX0_has 2 (some .boolean), Cond.methodLink RX0 44 yX0_insert, Cond.instanceMethod yX0_insert, Cond.selects RX0 yX0_insert yX0_insert, Cond.code yX0_insert cX0_insert 7 none, Cond.methodLink RX0 55 arraycopyName, Cond.native arraycopyName, Cond.static arraycopyName, Cond.initialized "java/lang/System"]
def wsX0_put_r2 : List Cond := [Cond.fieldLink RX0 19 "BurstWords$Dictionary" "depths" "[I", Cond.methodLink RX0 52 yX0_depthOf, Cond.instanceMethod yX0_depthOf, Cond.selects RX0 yX0_depthOf yX0_depthOf, Cond.code yX0_depthOf cX0_depthOf 6 (some .int), Cond.methodLink RX0 68 Lib.Math.min.name, Cond.static Lib.Math.min.name, Cond.initialized "java/lang/Math", Cond.code Lib.Math.min.name Lib.Math.min.code 2 (some .int), Cond.methodLink RX0 74 Lib.Math.max.name, Cond.static Lib.Math.max.name, Cond.code Lib.Math.max.name Lib.Math.max.code 2 (some .int), Cond.methodLink RX0 61 yX3_sharedBy, Cond.static yX3_sharedBy, Cond.initialized RX3, Cond.code yX3_sharedBy cX3_sharedBy 5 (some .int), Cond.methodLink RX3 15 yX3_letterAt, Cond.static yX3_letterAt, Cond.code yX3_letterAt cX3_letterAt 3 (some .int), Cond.methodLink RX3 9 yX3_shiftOf, Cond.static yX3_shiftOf, Cond.code yX3_shiftOf cX3_shiftOf 1 (some .int), Cond.methodLink RX0 65 yX0_depthAt, Cond.instanceMethod yX0_depthAt]
def wsX0_put_r3 : List Cond := [Cond.selects RX0 yX0_depthAt yX0_depthAt, Cond.code yX0_depthAt cX0_depthAt 2 (some .int), Cond.methodLink RX0 48 yX0_remove, Cond.instanceMethod yX0_remove, Cond.selects RX0 yX0_remove yX0_remove, Cond.code yX0_remove cX0_remove 3 none]
def wsX0_put : List Cond := .code yX0_put cX0_put 6 none :: ((wsX0_put_r1 ++ (wsX0_put_r2 ++ wsX0_put_r3)) ++ wsX00)
def wsX0_sharing : List Cond := .code yX0_sharing cX0_sharing 6 (some .int) :: ([.fieldLink RX0 22 "BurstWords$Dictionary" "size" "I", .methodLink RX0 32 yX0_wordAt, .instanceMethod yX0_wordAt, .selects RX0 yX0_wordAt yX0_wordAt, .initialized RX0, .code yX0_wordAt cX0_wordAt 2 (some .long), .fieldLink RX0 9 "BurstWords$Dictionary" "words" "[J", .methodLink RX0 26 yX0_has, .instanceMethod yX0_has, .selects RX0 yX0_has yX0_has, .code yX0_has cX0_has 2 (some .boolean), .methodLink RX0 61 yX3_sharedBy, .static yX3_sharedBy, .initialized RX3, .code yX3_sharedBy cX3_sharedBy 5 (some .int), .methodLink RX3 15 yX3_letterAt, .static yX3_letterAt, .code yX3_letterAt cX3_letterAt 3 (some .int), .methodLink RX3 9 yX3_shiftOf, .static yX3_shiftOf, .code yX3_shiftOf cX3_shiftOf 1 (some .int)] ++ wsX00)
def wsX3_lengthOf : List Cond := .code yX3_lengthOf cX3_lengthOf 3 (some .int) :: ([.methodLink RX3 15 yX3_letterAt, .static yX3_letterAt, .initialized RX3, .code yX3_letterAt cX3_letterAt 3 (some .int), .methodLink RX3 9 yX3_shiftOf, .static yX3_shiftOf, .code yX3_shiftOf cX3_shiftOf 1 (some .int)])
def wsX0_burstDepth_r1 : List Cond := [Cond.methodLink RX0 77 yX3_lengthOf, Cond.static yX3_lengthOf, Cond.initialized RX3, Cond.code yX3_lengthOf cX3_lengthOf 3 (some .int), Cond.methodLink RX3 15 yX3_letterAt, Cond.static yX3_letterAt, Cond.code yX3_letterAt cX3_letterAt 3 (some .int), Cond.methodLink RX3 9 yX3_shiftOf, Cond.static yX3_shiftOf, Cond.code yX3_shiftOf cX3_shiftOf 1 (some .int), Cond.methodLink RX0 80 yX0_sharing, Cond.instanceMethod yX0_sharing, Cond.selects RX0 yX0_sharing yX0_sharing, Cond.initialized RX0, Cond.code yX0_sharing cX0_sharing 6 (some .int), Cond.fieldLink RX0 22 "BurstWords$Dictionary" "size" "I", Cond.methodLink RX0 32 yX0_wordAt, Cond.instanceMethod yX0_wordAt, Cond.selects RX0 yX0_wordAt yX0_wordAt, Cond.code yX0_wordAt cX0_wordAt 2 (some .long), Cond.fieldLink RX0 9 "BurstWords$Dictionary" "words" "[J", Cond.methodLink RX0 26 yX0_has, Cond.instanceMethod yX0_has, Cond.selects RX0 yX0_has yX0_has]
def wsX0_burstDepth_r2 : List Cond := [Cond.code yX0_has cX0_has 2 (some .boolean), Cond.methodLink RX0 61 yX3_sharedBy, Cond.static yX3_sharedBy, Cond.code yX3_sharedBy cX3_sharedBy 5 (some .int)]
def wsX0_burstDepth : List Cond := .code yX0_burstDepth cX0_burstDepth 7 (some .int) :: ((wsX0_burstDepth_r1 ++ wsX0_burstDepth_r2) ++ wsX00)
def wsX0_mergedDepth_r1 : List Cond := [Cond.methodLink RX0 80 yX0_sharing, Cond.instanceMethod yX0_sharing, Cond.selects RX0 yX0_sharing yX0_sharing, Cond.initialized RX0, Cond.code yX0_sharing cX0_sharing 6 (some .int), Cond.fieldLink RX0 22 "BurstWords$Dictionary" "size" "I", Cond.methodLink RX0 32 yX0_wordAt, Cond.instanceMethod yX0_wordAt, Cond.selects RX0 yX0_wordAt yX0_wordAt, Cond.code yX0_wordAt cX0_wordAt 2 (some .long), Cond.fieldLink RX0 9 "BurstWords$Dictionary" "words" "[J", Cond.methodLink RX0 26 yX0_has, Cond.instanceMethod yX0_has, Cond.selects RX0 yX0_has yX0_has, Cond.code yX0_has cX0_has 2 (some .boolean), Cond.methodLink RX0 61 yX3_sharedBy, Cond.static yX3_sharedBy, Cond.initialized RX3, Cond.code yX3_sharedBy cX3_sharedBy 5 (some .int), Cond.methodLink RX3 15 yX3_letterAt, Cond.static yX3_letterAt, Cond.code yX3_letterAt cX3_letterAt 3 (some .int), Cond.methodLink RX3 9 yX3_shiftOf, Cond.static yX3_shiftOf]
def wsX0_mergedDepth_r2 : List Cond := [Cond.code yX3_shiftOf cX3_shiftOf 1 (some .int)]
def wsX0_mergedDepth : List Cond := .code yX0_mergedDepth cX0_mergedDepth 6 (some .int) :: ((wsX0_mergedDepth_r1 ++ wsX0_mergedDepth_r2) ++ wsX00)
def wsX0_reshape : List Cond := .code yX0_reshape cX0_reshape 8 none :: ([.methodLink RX0 68 Lib.Math.min.name, .static Lib.Math.min.name, .initialized "java/lang/Math", .code Lib.Math.min.name Lib.Math.min.code 2 (some .int), .fieldLink RX0 22 "BurstWords$Dictionary" "size" "I", .fieldLink RX0 9 "BurstWords$Dictionary" "words" "[J", .fieldLink RX0 19 "BurstWords$Dictionary" "depths" "[I", .methodLink RX0 61 yX3_sharedBy, .static yX3_sharedBy, .initialized RX3, .code yX3_sharedBy cX3_sharedBy 5 (some .int), .methodLink RX3 15 yX3_letterAt, .static yX3_letterAt, .code yX3_letterAt cX3_letterAt 3 (some .int), .methodLink RX3 9 yX3_shiftOf, .static yX3_shiftOf, .code yX3_shiftOf cX3_shiftOf 1 (some .int)] ++ wsX00)
def wsX0_oftenBelow : List Cond := .code yX0_oftenBelow cX0_oftenBelow 4 (some .int) :: ([.fieldLink RX0 22 "BurstWords$Dictionary" "size" "I", .methodLink RX0 40 yX0_oftenAt, .instanceMethod yX0_oftenAt, .selects RX0 yX0_oftenAt yX0_oftenAt, .initialized RX0, .code yX0_oftenAt cX0_oftenAt 2 (some .int), .fieldLink RX0 15 "BurstWords$Dictionary" "often" "[I", .methodLink RX0 26 yX0_has, .instanceMethod yX0_has, .selects RX0 yX0_has yX0_has, .code yX0_has cX0_has 2 (some .boolean)] ++ wsX00)
def wsX3_begins : List Cond := .code yX3_begins cX3_begins 4 (some .boolean) :: ([.methodLink RX3 19 yX3_sharedBy, .static yX3_sharedBy, .initialized RX3, .code yX3_sharedBy cX3_sharedBy 5 (some .int), .methodLink RX3 15 yX3_letterAt, .static yX3_letterAt, .code yX3_letterAt cX3_letterAt 3 (some .int), .methodLink RX3 9 yX3_shiftOf, .static yX3_shiftOf, .code yX3_shiftOf cX3_shiftOf 1 (some .int), .methodLink RX3 23 yX3_lengthOf, .static yX3_lengthOf, .code yX3_lengthOf cX3_lengthOf 3 (some .int)])
def wsX0_oftenBegun_r1 : List Cond := [Cond.fieldLink RX0 22 "BurstWords$Dictionary" "size" "I", Cond.methodLink RX0 32 yX0_wordAt, Cond.instanceMethod yX0_wordAt, Cond.selects RX0 yX0_wordAt yX0_wordAt, Cond.initialized RX0, Cond.code yX0_wordAt cX0_wordAt 2 (some .long), Cond.fieldLink RX0 9 "BurstWords$Dictionary" "words" "[J", Cond.methodLink RX0 26 yX0_has, Cond.instanceMethod yX0_has, Cond.selects RX0 yX0_has yX0_has, Cond.code yX0_has cX0_has 2 (some .boolean), Cond.methodLink RX0 84 yX3_begins, Cond.static yX3_begins, Cond.initialized RX3, Cond.code yX3_begins cX3_begins 4 (some .boolean), Cond.methodLink RX3 19 yX3_sharedBy, Cond.static yX3_sharedBy, Cond.code yX3_sharedBy cX3_sharedBy 5 (some .int), Cond.methodLink RX3 15 yX3_letterAt, Cond.static yX3_letterAt, Cond.code yX3_letterAt cX3_letterAt 3 (some .int), Cond.methodLink RX3 9 yX3_shiftOf, Cond.static yX3_shiftOf, Cond.code yX3_shiftOf cX3_shiftOf 1 (some .int)]
def wsX0_oftenBegun_r2 : List Cond := [Cond.methodLink RX3 23 yX3_lengthOf, Cond.static yX3_lengthOf, Cond.code yX3_lengthOf cX3_lengthOf 3 (some .int), Cond.methodLink RX0 40 yX0_oftenAt, Cond.instanceMethod yX0_oftenAt, Cond.selects RX0 yX0_oftenAt yX0_oftenAt, Cond.code yX0_oftenAt cX0_oftenAt 2 (some .int), Cond.fieldLink RX0 15 "BurstWords$Dictionary" "often" "[I"]
def wsX0_oftenBegun : List Cond := .code yX0_oftenBegun cX0_oftenBegun 5 (some .int) :: ((wsX0_oftenBegun_r1 ++ wsX0_oftenBegun_r2) ++ wsX00)
def wsX0_mostSharedWithOthers_r1 : List Cond := [Cond.fieldLink RX0 22 "BurstWords$Dictionary" "size" "I", Cond.methodLink RX0 74 Lib.Math.max.name, Cond.static Lib.Math.max.name, Cond.initialized "java/lang/Math", Cond.code Lib.Math.max.name Lib.Math.max.code 2 (some .int), Cond.methodLink RX0 32 yX0_wordAt, Cond.instanceMethod yX0_wordAt, Cond.selects RX0 yX0_wordAt yX0_wordAt, Cond.initialized RX0, Cond.code yX0_wordAt cX0_wordAt 2 (some .long), Cond.fieldLink RX0 9 "BurstWords$Dictionary" "words" "[J", Cond.methodLink RX0 26 yX0_has, Cond.instanceMethod yX0_has, Cond.selects RX0 yX0_has yX0_has, Cond.code yX0_has cX0_has 2 (some .boolean), Cond.methodLink RX0 61 yX3_sharedBy, Cond.static yX3_sharedBy, Cond.initialized RX3, Cond.code yX3_sharedBy cX3_sharedBy 5 (some .int), Cond.methodLink RX3 15 yX3_letterAt, Cond.static yX3_letterAt, Cond.code yX3_letterAt cX3_letterAt 3 (some .int), Cond.methodLink RX3 9 yX3_shiftOf, Cond.static yX3_shiftOf]
def wsX0_mostSharedWithOthers_r2 : List Cond := [Cond.code yX3_shiftOf cX3_shiftOf 1 (some .int)]
def wsX0_mostSharedWithOthers : List Cond := .code yX0_mostSharedWithOthers cX0_mostSharedWithOthers 5 (some .int) :: ((wsX0_mostSharedWithOthers_r1 ++ wsX0_mostSharedWithOthers_r2) ++ wsX00)
def wsX0_longestIn_r1 : List Cond := [Cond.fieldLink RX0 22 "BurstWords$Dictionary" "size" "I", Cond.methodLink RX0 74 Lib.Math.max.name, Cond.static Lib.Math.max.name, Cond.initialized "java/lang/Math", Cond.code Lib.Math.max.name Lib.Math.max.code 2 (some .int), Cond.methodLink RX0 32 yX0_wordAt, Cond.instanceMethod yX0_wordAt, Cond.selects RX0 yX0_wordAt yX0_wordAt, Cond.initialized RX0, Cond.code yX0_wordAt cX0_wordAt 2 (some .long), Cond.fieldLink RX0 9 "BurstWords$Dictionary" "words" "[J", Cond.methodLink RX0 26 yX0_has, Cond.instanceMethod yX0_has, Cond.selects RX0 yX0_has yX0_has, Cond.code yX0_has cX0_has 2 (some .boolean), Cond.methodLink RX0 84 yX3_begins, Cond.static yX3_begins, Cond.initialized RX3, Cond.code yX3_begins cX3_begins 4 (some .boolean), Cond.methodLink RX3 19 yX3_sharedBy, Cond.static yX3_sharedBy, Cond.code yX3_sharedBy cX3_sharedBy 5 (some .int), Cond.methodLink RX3 15 yX3_letterAt, Cond.static yX3_letterAt]
def wsX0_longestIn_r2 : List Cond := [Cond.code yX3_letterAt cX3_letterAt 3 (some .int), Cond.methodLink RX3 9 yX3_shiftOf, Cond.static yX3_shiftOf, Cond.code yX3_shiftOf cX3_shiftOf 1 (some .int), Cond.methodLink RX3 23 yX3_lengthOf, Cond.static yX3_lengthOf, Cond.code yX3_lengthOf cX3_lengthOf 3 (some .int), Cond.methodLink RX0 77 yX3_lengthOf]
def wsX0_longestIn : List Cond := .code yX0_longestIn cX0_longestIn 5 (some .int) :: ((wsX0_longestIn_r1 ++ wsX0_longestIn_r2) ++ wsX00)
def wsX3_differences : List Cond := .code yX3_differences cX3_differences 6 (some .int) :: ([.methodLink RX3 15 yX3_letterAt, .static yX3_letterAt, .initialized RX3, .code yX3_letterAt cX3_letterAt 3 (some .int), .methodLink RX3 9 yX3_shiftOf, .static yX3_shiftOf, .code yX3_shiftOf cX3_shiftOf 1 (some .int)])
def wsX0_alike : List Cond := .code yX0_alike cX0_alike 7 (some .int) :: ([.fieldLink RX0 22 "BurstWords$Dictionary" "size" "I", .methodLink RX0 77 yX3_lengthOf, .static yX3_lengthOf, .initialized RX3, .code yX3_lengthOf cX3_lengthOf 3 (some .int), .methodLink RX3 15 yX3_letterAt, .static yX3_letterAt, .code yX3_letterAt cX3_letterAt 3 (some .int), .methodLink RX3 9 yX3_shiftOf, .static yX3_shiftOf, .code yX3_shiftOf cX3_shiftOf 1 (some .int), .methodLink RX0 32 yX0_wordAt, .instanceMethod yX0_wordAt, .selects RX0 yX0_wordAt yX0_wordAt, .initialized RX0, .code yX0_wordAt cX0_wordAt 2 (some .long), .fieldLink RX0 9 "BurstWords$Dictionary" "words" "[J", .methodLink RX0 26 yX0_has, .instanceMethod yX0_has, .selects RX0 yX0_has yX0_has, .code yX0_has cX0_has 2 (some .boolean), .methodLink RX0 88 yX3_differences, .static yX3_differences, .code yX3_differences cX3_differences 6 (some .int)] ++ wsX00)
def wsX0_holderOf : List Cond := .code yX0_holderOf cX0_holderOf 4 (some .int) :: ([.fieldLink RX0 22 "BurstWords$Dictionary" "size" "I", .methodLink RX0 40 yX0_oftenAt, .instanceMethod yX0_oftenAt, .selects RX0 yX0_oftenAt yX0_oftenAt, .initialized RX0, .code yX0_oftenAt cX0_oftenAt 2 (some .int), .fieldLink RX0 15 "BurstWords$Dictionary" "often" "[I", .methodLink RX0 26 yX0_has, .instanceMethod yX0_has, .selects RX0 yX0_has yX0_has, .code yX0_has cX0_has 2 (some .boolean)] ++ wsX00)
def wsX0_moreFrequent_r1 : List Cond := [Cond.fieldLink RX0 22 "BurstWords$Dictionary" "size" "I", Cond.methodLink RX0 40 yX0_oftenAt, Cond.instanceMethod yX0_oftenAt, Cond.selects RX0 yX0_oftenAt yX0_oftenAt, Cond.initialized RX0, Cond.code yX0_oftenAt cX0_oftenAt 2 (some .int), Cond.fieldLink RX0 15 "BurstWords$Dictionary" "often" "[I", Cond.methodLink RX0 26 yX0_has, Cond.instanceMethod yX0_has, Cond.selects RX0 yX0_has yX0_has, Cond.code yX0_has cX0_has 2 (some .boolean), Cond.methodLink RX0 32 yX0_wordAt, Cond.instanceMethod yX0_wordAt, Cond.selects RX0 yX0_wordAt yX0_wordAt, Cond.code yX0_wordAt cX0_wordAt 2 (some .long), Cond.fieldLink RX0 9 "BurstWords$Dictionary" "words" "[J", Cond.methodLink RX0 84 yX3_begins, Cond.static yX3_begins, Cond.initialized RX3, Cond.code yX3_begins cX3_begins 4 (some .boolean), Cond.methodLink RX3 19 yX3_sharedBy, Cond.static yX3_sharedBy, Cond.code yX3_sharedBy cX3_sharedBy 5 (some .int), Cond.methodLink RX3 15 yX3_letterAt]
def wsX0_moreFrequent_r2 : List Cond := [Cond.static yX3_letterAt, Cond.code yX3_letterAt cX3_letterAt 3 (some .int), Cond.methodLink RX3 9 yX3_shiftOf, Cond.static yX3_shiftOf, Cond.code yX3_shiftOf cX3_shiftOf 1 (some .int), Cond.methodLink RX3 23 yX3_lengthOf, Cond.static yX3_lengthOf, Cond.code yX3_lengthOf cX3_lengthOf 3 (some .int)]
def wsX0_moreFrequent : List Cond := .code yX0_moreFrequent cX0_moreFrequent 7 (some .int) :: ((wsX0_moreFrequent_r1 ++ wsX0_moreFrequent_r2) ++ wsX00)
def wsX0_frequent_r1 : List Cond := [Cond.fieldLink RX0 22 "BurstWords$Dictionary" "size" "I", Cond.methodLink RX0 32 yX0_wordAt, Cond.instanceMethod yX0_wordAt, Cond.selects RX0 yX0_wordAt yX0_wordAt, Cond.initialized RX0, Cond.code yX0_wordAt cX0_wordAt 2 (some .long), Cond.fieldLink RX0 9 "BurstWords$Dictionary" "words" "[J", Cond.methodLink RX0 26 yX0_has, Cond.instanceMethod yX0_has, Cond.selects RX0 yX0_has yX0_has, Cond.code yX0_has cX0_has 2 (some .boolean), Cond.methodLink RX0 84 yX3_begins, Cond.static yX3_begins, Cond.initialized RX3, Cond.code yX3_begins cX3_begins 4 (some .boolean), Cond.methodLink RX3 19 yX3_sharedBy, Cond.static yX3_sharedBy, Cond.code yX3_sharedBy cX3_sharedBy 5 (some .int), Cond.methodLink RX3 15 yX3_letterAt, Cond.static yX3_letterAt, Cond.code yX3_letterAt cX3_letterAt 3 (some .int), Cond.methodLink RX3 9 yX3_shiftOf, Cond.static yX3_shiftOf, Cond.code yX3_shiftOf cX3_shiftOf 1 (some .int)]
def wsX0_frequent_r2 : List Cond := [Cond.methodLink RX3 23 yX3_lengthOf, Cond.static yX3_lengthOf, Cond.code yX3_lengthOf cX3_lengthOf 3 (some .int), Cond.methodLink RX0 91 yX0_moreFrequent, Cond.instanceMethod yX0_moreFrequent, Cond.selects RX0 yX0_moreFrequent yX0_moreFrequent, Cond.code yX0_moreFrequent cX0_moreFrequent 7 (some .int), Cond.methodLink RX0 40 yX0_oftenAt, Cond.instanceMethod yX0_oftenAt, Cond.selects RX0 yX0_oftenAt yX0_oftenAt, Cond.code yX0_oftenAt cX0_oftenAt 2 (some .int), Cond.fieldLink RX0 15 "BurstWords$Dictionary" "often" "[I"]
def wsX0_frequent : List Cond := .code yX0_frequent cX0_frequent 5 (some .int) :: ((wsX0_frequent_r1 ++ wsX0_frequent_r2) ++ wsX00)
def wsX0_sharedAhead : List Cond := .code yX0_sharedAhead cX0_sharedAhead 2 (some .int) :: ([.methodLink RX0 32 yX0_wordAt, .instanceMethod yX0_wordAt, .selects RX0 yX0_wordAt yX0_wordAt, .initialized RX0, .code yX0_wordAt cX0_wordAt 2 (some .long), .fieldLink RX0 9 "BurstWords$Dictionary" "words" "[J", .methodLink RX0 26 yX0_has, .instanceMethod yX0_has, .selects RX0 yX0_has yX0_has, .code yX0_has cX0_has 2 (some .boolean), .fieldLink RX0 22 "BurstWords$Dictionary" "size" "I", .methodLink RX0 61 yX3_sharedBy, .static yX3_sharedBy, .initialized RX3, .code yX3_sharedBy cX3_sharedBy 5 (some .int), .methodLink RX3 15 yX3_letterAt, .static yX3_letterAt, .code yX3_letterAt cX3_letterAt 3 (some .int), .methodLink RX3 9 yX3_shiftOf, .static yX3_shiftOf, .code yX3_shiftOf cX3_shiftOf 1 (some .int)] ++ wsX00)
def wsX0_nodes_r1 : List Cond := [Cond.fieldLink RX0 22 "BurstWords$Dictionary" "size" "I", Cond.methodLink RX0 74 Lib.Math.max.name, Cond.static Lib.Math.max.name, Cond.initialized "java/lang/Math", Cond.code Lib.Math.max.name Lib.Math.max.code 2 (some .int), Cond.methodLink RX0 65 yX0_depthAt, Cond.instanceMethod yX0_depthAt, Cond.selects RX0 yX0_depthAt yX0_depthAt, Cond.initialized RX0, Cond.code yX0_depthAt cX0_depthAt 2 (some .int), Cond.fieldLink RX0 19 "BurstWords$Dictionary" "depths" "[I", Cond.methodLink RX0 26 yX0_has, Cond.instanceMethod yX0_has, Cond.selects RX0 yX0_has yX0_has, Cond.code yX0_has cX0_has 2 (some .boolean), Cond.methodLink RX0 94 yX0_sharedAhead, Cond.instanceMethod yX0_sharedAhead, Cond.selects RX0 yX0_sharedAhead yX0_sharedAhead, Cond.code yX0_sharedAhead cX0_sharedAhead 2 (some .int), Cond.methodLink RX0 32 yX0_wordAt, Cond.instanceMethod yX0_wordAt, Cond.selects RX0 yX0_wordAt yX0_wordAt, Cond.code yX0_wordAt cX0_wordAt 2 (some .long), Cond.fieldLink RX0 9 "BurstWords$Dictionary" "words" "[J"]
def wsX0_nodes_r2 : List Cond := [Cond.methodLink RX0 61 yX3_sharedBy, Cond.static yX3_sharedBy, Cond.initialized RX3, Cond.code yX3_sharedBy cX3_sharedBy 5 (some .int), Cond.methodLink RX3 15 yX3_letterAt, Cond.static yX3_letterAt, Cond.code yX3_letterAt cX3_letterAt 3 (some .int), Cond.methodLink RX3 9 yX3_shiftOf, Cond.static yX3_shiftOf, Cond.code yX3_shiftOf cX3_shiftOf 1 (some .int)]
def wsX0_nodes : List Cond := .code yX0_nodes cX0_nodes 3 (some .int) :: ((wsX0_nodes_r1 ++ wsX0_nodes_r2) ++ wsX00)
def wsX0_isContained_r1 : List Cond := [Cond.methodLink RX0 65 yX0_depthAt, Cond.instanceMethod yX0_depthAt, Cond.selects RX0 yX0_depthAt yX0_depthAt, Cond.initialized RX0, Cond.code yX0_depthAt cX0_depthAt 2 (some .int), Cond.fieldLink RX0 19 "BurstWords$Dictionary" "depths" "[I", Cond.methodLink RX0 26 yX0_has, Cond.instanceMethod yX0_has, Cond.selects RX0 yX0_has yX0_has, Cond.code yX0_has cX0_has 2 (some .boolean), Cond.fieldLink RX0 22 "BurstWords$Dictionary" "size" "I", Cond.methodLink RX0 32 yX0_wordAt, Cond.instanceMethod yX0_wordAt, Cond.selects RX0 yX0_wordAt yX0_wordAt, Cond.code yX0_wordAt cX0_wordAt 2 (some .long), Cond.fieldLink RX0 9 "BurstWords$Dictionary" "words" "[J", Cond.methodLink RX0 77 yX3_lengthOf, Cond.static yX3_lengthOf, Cond.initialized RX3, Cond.code yX3_lengthOf cX3_lengthOf 3 (some .int), Cond.methodLink RX3 15 yX3_letterAt, Cond.static yX3_letterAt, Cond.code yX3_letterAt cX3_letterAt 3 (some .int), Cond.methodLink RX3 9 yX3_shiftOf]
def wsX0_isContained_r2 : List Cond := [Cond.static yX3_shiftOf, Cond.code yX3_shiftOf cX3_shiftOf 1 (some .int)]
def wsX0_isContained : List Cond := .code yX0_isContained cX0_isContained 2 (some .boolean) :: ((wsX0_isContained_r1 ++ wsX0_isContained_r2) ++ wsX00)
def wsX0_opensContainer_r1 : List Cond := [Cond.methodLink RX0 97 yX0_isContained, Cond.instanceMethod yX0_isContained, Cond.selects RX0 yX0_isContained yX0_isContained, Cond.initialized RX0, Cond.code yX0_isContained cX0_isContained 2 (some .boolean), Cond.methodLink RX0 65 yX0_depthAt, Cond.instanceMethod yX0_depthAt, Cond.selects RX0 yX0_depthAt yX0_depthAt, Cond.code yX0_depthAt cX0_depthAt 2 (some .int), Cond.fieldLink RX0 19 "BurstWords$Dictionary" "depths" "[I", Cond.methodLink RX0 26 yX0_has, Cond.instanceMethod yX0_has, Cond.selects RX0 yX0_has yX0_has, Cond.code yX0_has cX0_has 2 (some .boolean), Cond.fieldLink RX0 22 "BurstWords$Dictionary" "size" "I", Cond.methodLink RX0 32 yX0_wordAt, Cond.instanceMethod yX0_wordAt, Cond.selects RX0 yX0_wordAt yX0_wordAt, Cond.code yX0_wordAt cX0_wordAt 2 (some .long), Cond.fieldLink RX0 9 "BurstWords$Dictionary" "words" "[J", Cond.methodLink RX0 77 yX3_lengthOf, Cond.static yX3_lengthOf, Cond.initialized RX3, Cond.code yX3_lengthOf cX3_lengthOf 3 (some .int)]
def wsX0_opensContainer_r2 : List Cond := [Cond.methodLink RX3 15 yX3_letterAt, Cond.static yX3_letterAt, Cond.code yX3_letterAt cX3_letterAt 3 (some .int), Cond.methodLink RX3 9 yX3_shiftOf, Cond.static yX3_shiftOf, Cond.code yX3_shiftOf cX3_shiftOf 1 (some .int), Cond.methodLink RX0 94 yX0_sharedAhead, Cond.instanceMethod yX0_sharedAhead, Cond.selects RX0 yX0_sharedAhead yX0_sharedAhead, Cond.code yX0_sharedAhead cX0_sharedAhead 2 (some .int), Cond.methodLink RX0 61 yX3_sharedBy, Cond.static yX3_sharedBy, Cond.code yX3_sharedBy cX3_sharedBy 5 (some .int)]
def wsX0_opensContainer : List Cond := .code yX0_opensContainer cX0_opensContainer 2 (some .boolean) :: ((wsX0_opensContainer_r1 ++ wsX0_opensContainer_r2) ++ wsX00)
def wsX0_containers_r1 : List Cond := [Cond.fieldLink RX0 22 "BurstWords$Dictionary" "size" "I", Cond.methodLink RX0 100 yX0_opensContainer, Cond.instanceMethod yX0_opensContainer, Cond.selects RX0 yX0_opensContainer yX0_opensContainer, Cond.initialized RX0, Cond.code yX0_opensContainer cX0_opensContainer 2 (some .boolean), Cond.methodLink RX0 97 yX0_isContained, Cond.instanceMethod yX0_isContained, Cond.selects RX0 yX0_isContained yX0_isContained, Cond.code yX0_isContained cX0_isContained 2 (some .boolean), Cond.methodLink RX0 65 yX0_depthAt, Cond.instanceMethod yX0_depthAt, Cond.selects RX0 yX0_depthAt yX0_depthAt, Cond.code yX0_depthAt cX0_depthAt 2 (some .int), Cond.fieldLink RX0 19 "BurstWords$Dictionary" "depths" "[I", Cond.methodLink RX0 26 yX0_has, Cond.instanceMethod yX0_has, Cond.selects RX0 yX0_has yX0_has, Cond.code yX0_has cX0_has 2 (some .boolean), Cond.methodLink RX0 32 yX0_wordAt, Cond.instanceMethod yX0_wordAt, Cond.selects RX0 yX0_wordAt yX0_wordAt, Cond.code yX0_wordAt cX0_wordAt 2 (some .long), Cond.fieldLink RX0 9 "BurstWords$Dictionary" "words" "[J"]
def wsX0_containers_r2 : List Cond := [Cond.methodLink RX0 77 yX3_lengthOf, Cond.static yX3_lengthOf, Cond.initialized RX3, Cond.code yX3_lengthOf cX3_lengthOf 3 (some .int), Cond.methodLink RX3 15 yX3_letterAt, Cond.static yX3_letterAt, Cond.code yX3_letterAt cX3_letterAt 3 (some .int), Cond.methodLink RX3 9 yX3_shiftOf, Cond.static yX3_shiftOf, Cond.code yX3_shiftOf cX3_shiftOf 1 (some .int), Cond.methodLink RX0 94 yX0_sharedAhead, Cond.instanceMethod yX0_sharedAhead, Cond.selects RX0 yX0_sharedAhead yX0_sharedAhead, Cond.code yX0_sharedAhead cX0_sharedAhead 2 (some .int), Cond.methodLink RX0 61 yX3_sharedBy, Cond.static yX3_sharedBy, Cond.code yX3_sharedBy cX3_sharedBy 5 (some .int)]
def wsX0_containers : List Cond := .code yX0_containers cX0_containers 3 (some .int) :: ((wsX0_containers_r1 ++ wsX0_containers_r2) ++ wsX00)
def wsX0_fullest_r1 : List Cond := [Cond.fieldLink RX0 22 "BurstWords$Dictionary" "size" "I", Cond.methodLink RX0 74 Lib.Math.max.name, Cond.static Lib.Math.max.name, Cond.initialized "java/lang/Math", Cond.code Lib.Math.max.name Lib.Math.max.code 2 (some .int), Cond.methodLink RX0 97 yX0_isContained, Cond.instanceMethod yX0_isContained, Cond.selects RX0 yX0_isContained yX0_isContained, Cond.initialized RX0, Cond.code yX0_isContained cX0_isContained 2 (some .boolean), Cond.methodLink RX0 65 yX0_depthAt, Cond.instanceMethod yX0_depthAt, Cond.selects RX0 yX0_depthAt yX0_depthAt, Cond.code yX0_depthAt cX0_depthAt 2 (some .int), Cond.fieldLink RX0 19 "BurstWords$Dictionary" "depths" "[I", Cond.methodLink RX0 26 yX0_has, Cond.instanceMethod yX0_has, Cond.selects RX0 yX0_has yX0_has, Cond.code yX0_has cX0_has 2 (some .boolean), Cond.methodLink RX0 32 yX0_wordAt, Cond.instanceMethod yX0_wordAt, Cond.selects RX0 yX0_wordAt yX0_wordAt, Cond.code yX0_wordAt cX0_wordAt 2 (some .long), Cond.fieldLink RX0 9 "BurstWords$Dictionary" "words" "[J"]
def wsX0_fullest_r2 : List Cond := [Cond.methodLink RX0 77 yX3_lengthOf, Cond.static yX3_lengthOf, Cond.initialized RX3, Cond.code yX3_lengthOf cX3_lengthOf 3 (some .int), Cond.methodLink RX3 15 yX3_letterAt, Cond.static yX3_letterAt, Cond.code yX3_letterAt cX3_letterAt 3 (some .int), Cond.methodLink RX3 9 yX3_shiftOf, Cond.static yX3_shiftOf, Cond.code yX3_shiftOf cX3_shiftOf 1 (some .int), Cond.methodLink RX0 100 yX0_opensContainer, Cond.instanceMethod yX0_opensContainer, Cond.selects RX0 yX0_opensContainer yX0_opensContainer, Cond.code yX0_opensContainer cX0_opensContainer 2 (some .boolean), Cond.methodLink RX0 94 yX0_sharedAhead, Cond.instanceMethod yX0_sharedAhead, Cond.selects RX0 yX0_sharedAhead yX0_sharedAhead, Cond.code yX0_sharedAhead cX0_sharedAhead 2 (some .int), Cond.methodLink RX0 61 yX3_sharedBy, Cond.static yX3_sharedBy, Cond.code yX3_sharedBy cX3_sharedBy 5 (some .int)]
def wsX0_fullest : List Cond := .code yX0_fullest cX0_fullest 4 (some .int) :: ((wsX0_fullest_r1 ++ wsX0_fullest_r2) ++ wsX00)
def wsX0_deepest : List Cond := .code yX0_deepest cX0_deepest 3 (some .int) :: ([.fieldLink RX0 22 "BurstWords$Dictionary" "size" "I", .methodLink RX0 74 Lib.Math.max.name, .static Lib.Math.max.name, .initialized "java/lang/Math", .code Lib.Math.max.name Lib.Math.max.code 2 (some .int), .methodLink RX0 65 yX0_depthAt, .instanceMethod yX0_depthAt, .selects RX0 yX0_depthAt yX0_depthAt, .initialized RX0, .code yX0_depthAt cX0_depthAt 2 (some .int), .fieldLink RX0 19 "BurstWords$Dictionary" "depths" "[I", .methodLink RX0 26 yX0_has, .instanceMethod yX0_has, .selects RX0 yX0_has yX0_has, .code yX0_has cX0_has 2 (some .boolean)] ++ wsX00)
def wsX0_lettersKept_r1 : List Cond := [Cond.fieldLink RX0 22 "BurstWords$Dictionary" "size" "I", Cond.methodLink RX0 97 yX0_isContained, Cond.instanceMethod yX0_isContained, Cond.selects RX0 yX0_isContained yX0_isContained, Cond.initialized RX0, Cond.code yX0_isContained cX0_isContained 2 (some .boolean), Cond.methodLink RX0 65 yX0_depthAt, Cond.instanceMethod yX0_depthAt, Cond.selects RX0 yX0_depthAt yX0_depthAt, Cond.code yX0_depthAt cX0_depthAt 2 (some .int), Cond.fieldLink RX0 19 "BurstWords$Dictionary" "depths" "[I", Cond.methodLink RX0 26 yX0_has, Cond.instanceMethod yX0_has, Cond.selects RX0 yX0_has yX0_has, Cond.code yX0_has cX0_has 2 (some .boolean), Cond.methodLink RX0 32 yX0_wordAt, Cond.instanceMethod yX0_wordAt, Cond.selects RX0 yX0_wordAt yX0_wordAt, Cond.code yX0_wordAt cX0_wordAt 2 (some .long), Cond.fieldLink RX0 9 "BurstWords$Dictionary" "words" "[J", Cond.methodLink RX0 77 yX3_lengthOf, Cond.static yX3_lengthOf, Cond.initialized RX3, Cond.code yX3_lengthOf cX3_lengthOf 3 (some .int)]
def wsX0_lettersKept_r2 : List Cond := [Cond.methodLink RX3 15 yX3_letterAt, Cond.static yX3_letterAt, Cond.code yX3_letterAt cX3_letterAt 3 (some .int), Cond.methodLink RX3 9 yX3_shiftOf, Cond.static yX3_shiftOf, Cond.code yX3_shiftOf cX3_shiftOf 1 (some .int)]
def wsX0_lettersKept : List Cond := .code yX0_lettersKept cX0_lettersKept 3 (some .int) :: ((wsX0_lettersKept_r1 ++ wsX0_lettersKept_r2) ++ wsX00)
def wsX0_mostShared_r1 : List Cond := [Cond.fieldLink RX0 22 "BurstWords$Dictionary" "size" "I", Cond.methodLink RX0 74 Lib.Math.max.name, Cond.static Lib.Math.max.name, Cond.initialized "java/lang/Math", Cond.code Lib.Math.max.name Lib.Math.max.code 2 (some .int), Cond.methodLink RX0 94 yX0_sharedAhead, Cond.instanceMethod yX0_sharedAhead, Cond.selects RX0 yX0_sharedAhead yX0_sharedAhead, Cond.initialized RX0, Cond.code yX0_sharedAhead cX0_sharedAhead 2 (some .int), Cond.methodLink RX0 32 yX0_wordAt, Cond.instanceMethod yX0_wordAt, Cond.selects RX0 yX0_wordAt yX0_wordAt, Cond.code yX0_wordAt cX0_wordAt 2 (some .long), Cond.fieldLink RX0 9 "BurstWords$Dictionary" "words" "[J", Cond.methodLink RX0 26 yX0_has, Cond.instanceMethod yX0_has, Cond.selects RX0 yX0_has yX0_has, Cond.code yX0_has cX0_has 2 (some .boolean), Cond.methodLink RX0 61 yX3_sharedBy, Cond.static yX3_sharedBy, Cond.initialized RX3, Cond.code yX3_sharedBy cX3_sharedBy 5 (some .int), Cond.methodLink RX3 15 yX3_letterAt]
def wsX0_mostShared_r2 : List Cond := [Cond.static yX3_letterAt, Cond.code yX3_letterAt cX3_letterAt 3 (some .int), Cond.methodLink RX3 9 yX3_shiftOf, Cond.static yX3_shiftOf, Cond.code yX3_shiftOf cX3_shiftOf 1 (some .int)]
def wsX0_mostShared : List Cond := .code yX0_mostShared cX0_mostShared 3 (some .int) :: ((wsX0_mostShared_r1 ++ wsX0_mostShared_r2) ++ wsX00)
def wsX0_pairsSharing_r1 : List Cond := [Cond.fieldLink RX0 22 "BurstWords$Dictionary" "size" "I", Cond.methodLink RX0 94 yX0_sharedAhead, Cond.instanceMethod yX0_sharedAhead, Cond.selects RX0 yX0_sharedAhead yX0_sharedAhead, Cond.initialized RX0, Cond.code yX0_sharedAhead cX0_sharedAhead 2 (some .int), Cond.methodLink RX0 32 yX0_wordAt, Cond.instanceMethod yX0_wordAt, Cond.selects RX0 yX0_wordAt yX0_wordAt, Cond.code yX0_wordAt cX0_wordAt 2 (some .long), Cond.fieldLink RX0 9 "BurstWords$Dictionary" "words" "[J", Cond.methodLink RX0 26 yX0_has, Cond.instanceMethod yX0_has, Cond.selects RX0 yX0_has yX0_has, Cond.code yX0_has cX0_has 2 (some .boolean), Cond.methodLink RX0 61 yX3_sharedBy, Cond.static yX3_sharedBy, Cond.initialized RX3, Cond.code yX3_sharedBy cX3_sharedBy 5 (some .int), Cond.methodLink RX3 15 yX3_letterAt, Cond.static yX3_letterAt, Cond.code yX3_letterAt cX3_letterAt 3 (some .int), Cond.methodLink RX3 9 yX3_shiftOf, Cond.static yX3_shiftOf]
def wsX0_pairsSharing_r2 : List Cond := [Cond.code yX3_shiftOf cX3_shiftOf 1 (some .int)]
def wsX0_pairsSharing : List Cond := .code yX0_pairsSharing cX0_pairsSharing 4 (some .int) :: ((wsX0_pairsSharing_r1 ++ wsX0_pairsSharing_r2) ++ wsX00)
def wsX1_init : List Cond := .code yX1_init cX1_init 1 none :: ([.methodLink RX1 3 objectInit, .instanceMethod objectInit, .code objectInit ⟨#[0xb1]⟩ 1 none, .arrayClass .long, .fieldLink RX1 9 "BurstWords$History" "words" "[J", .arrayClass .int, .fieldLink RX1 15 "BurstWords$History" "often" "[I", .fieldLink RX1 19 "BurstWords$History" "depths" "[I", .fieldLink RX1 22 "BurstWords$History" "size" "I"] ++ wsX10)
def wsX1_size : List Cond := .code yX1_size cX1_size 1 (some .int) :: ([.fieldLink RX1 22 "BurstWords$History" "size" "I"] ++ wsX10)
def wsX1_empty : List Cond := .code yX1_empty cX1_empty 1 none :: ([.fieldLink RX1 22 "BurstWords$History" "size" "I"] ++ wsX10)
def wsX1_loseOldest : List Cond := .code yX1_loseOldest cX1_loseOldest 1 none :: ([.fieldLink RX1 22 "BurstWords$History" "size" "I", .fieldLink RX1 9 "BurstWords$History" "words" "[J", .methodLink RX1 29 arraycopyName, .native arraycopyName, .static arraycopyName, .initialized "java/lang/System", .fieldLink RX1 15 "BurstWords$History" "often" "[I", .fieldLink RX1 19 "BurstWords$History" "depths" "[I"] ++ wsX10)
def wsX1_push : List Cond := .code yX1_push cX1_push 5 none :: ([.fieldLink RX1 22 "BurstWords$History" "size" "I", .fieldLink RX1 9 "BurstWords$History" "words" "[J", .fieldLink RX1 15 "BurstWords$History" "often" "[I", .fieldLink RX1 19 "BurstWords$History" "depths" "[I", .methodLink RX1 26 yX1_loseOldest, .instanceMethod yX1_loseOldest, .selects RX1 yX1_loseOldest yX1_loseOldest, .initialized RX1, .code yX1_loseOldest cX1_loseOldest 1 none, .methodLink RX1 29 arraycopyName, .native arraycopyName, .static arraycopyName, .initialized "java/lang/System"] ++ wsX10)
def wsX1_hasLast : List Cond := .code yX1_hasLast cX1_hasLast 1 (some .boolean) :: ([.fieldLink RX1 22 "BurstWords$History" "size" "I"] ++ wsX10)
def wsX1_lastWord : List Cond := .code yX1_lastWord cX1_lastWord 1 (some .long) :: ([.fieldLink RX1 9 "BurstWords$History" "words" "[J", .fieldLink RX1 22 "BurstWords$History" "size" "I", .methodLink RX1 35 yX1_hasLast, .instanceMethod yX1_hasLast, .selects RX1 yX1_hasLast yX1_hasLast, .initialized RX1, .code yX1_hasLast cX1_hasLast 1 (some .boolean)] ++ wsX10)
def wsX1_lastOften : List Cond := .code yX1_lastOften cX1_lastOften 1 (some .int) :: ([.fieldLink RX1 15 "BurstWords$History" "often" "[I", .fieldLink RX1 22 "BurstWords$History" "size" "I", .methodLink RX1 35 yX1_hasLast, .instanceMethod yX1_hasLast, .selects RX1 yX1_hasLast yX1_hasLast, .initialized RX1, .code yX1_hasLast cX1_hasLast 1 (some .boolean)] ++ wsX10)
def wsX1_lastDepth : List Cond := .code yX1_lastDepth cX1_lastDepth 1 (some .int) :: ([.fieldLink RX1 19 "BurstWords$History" "depths" "[I", .fieldLink RX1 22 "BurstWords$History" "size" "I", .methodLink RX1 35 yX1_hasLast, .instanceMethod yX1_hasLast, .selects RX1 yX1_hasLast yX1_hasLast, .initialized RX1, .code yX1_hasLast cX1_hasLast 1 (some .boolean)] ++ wsX10)
def wsX1_drop : List Cond := .code yX1_drop cX1_drop 1 none :: ([.fieldLink RX1 22 "BurstWords$History" "size" "I", .methodLink RX1 35 yX1_hasLast, .instanceMethod yX1_hasLast, .selects RX1 yX1_hasLast yX1_hasLast, .initialized RX1, .code yX1_hasLast cX1_hasLast 1 (some .boolean)] ++ wsX10)
def wsX2_init : List Cond := .code yX2_init cX2_init 1 none :: ([.methodLink RX2 3 objectInit, .instanceMethod objectInit, .code objectInit ⟨#[0xb1]⟩ 1 none, .arrayClass .int, .fieldLink RX2 9 "BurstWords$Sightings" "places" "[I", .fieldLink RX2 15 "BurstWords$Sightings" "letters" "[I", .arrayClass .boolean, .fieldLink RX2 18 "BurstWords$Sightings" "so" "[Z", .fieldLink RX2 22 "BurstWords$Sightings" "size" "I"] ++ wsX20)
def wsX2_size : List Cond := .code yX2_size cX2_size 1 (some .int) :: ([.fieldLink RX2 22 "BurstWords$Sightings" "size" "I"] ++ wsX20)
def wsX2_empty : List Cond := .code yX2_empty cX2_empty 1 none :: ([.fieldLink RX2 22 "BurstWords$Sightings" "size" "I"] ++ wsX20)
def wsX2_push : List Cond := .code yX2_push cX2_push 4 none :: ([.fieldLink RX2 22 "BurstWords$Sightings" "size" "I", .fieldLink RX2 9 "BurstWords$Sightings" "places" "[I", .fieldLink RX2 15 "BurstWords$Sightings" "letters" "[I", .fieldLink RX2 18 "BurstWords$Sightings" "so" "[Z"] ++ wsX20)
def wsX2_allow : List Cond := .code yX2_allow cX2_allow 5 (some .boolean) :: ([.fieldLink RX2 22 "BurstWords$Sightings" "size" "I", .fieldLink RX2 9 "BurstWords$Sightings" "places" "[I", .fieldLink RX2 15 "BurstWords$Sightings" "letters" "[I", .fieldLink RX2 18 "BurstWords$Sightings" "so" "[Z", .methodLink RX2 26 yX3_letterAt, .static yX3_letterAt, .initialized RX3, .code yX3_letterAt cX3_letterAt 3 (some .int), .methodLink RX3 9 yX3_shiftOf, .static yX3_shiftOf, .code yX3_shiftOf cX3_shiftOf 1 (some .int)] ++ wsX20)
def wsX3_isLetter : List Cond := .code yX3_isLetter cX3_isLetter 1 (some .boolean) :: ([])
def wsX3_extended : List Cond := .code yX3_extended cX3_extended 4 (some .long) :: ([.methodLink RX3 9 yX3_shiftOf, .static yX3_shiftOf, .initialized RX3, .code yX3_shiftOf cX3_shiftOf 1 (some .int)])
def wsX4_init_r1 : List Cond := [Cond.methodLink RX4 1 objectInit, Cond.instanceMethod objectInit, Cond.code objectInit ⟨#[0xb1]⟩ 1 none, Cond.classLink RX4 7 RX0, Cond.instantiable RX0 4, Cond.initialized RX0, Cond.fieldLink RX4 10 "BurstWords" "dictionary" "LBurstWords$Dictionary;", Cond.classLink RX4 16 RX1, Cond.instantiable RX1 4, Cond.initialized RX1, Cond.fieldLink RX4 19 "BurstWords" "history" "LBurstWords$History;", Cond.classLink RX4 23 RX2, Cond.instantiable RX2 4, Cond.initialized RX2, Cond.fieldLink RX4 26 "BurstWords" "sightings" "LBurstWords$Sightings;", Cond.arrayClass .int, Cond.fieldLink RX4 30 "BurstWords" "tally" "[I", Cond.fieldLink RX4 36 "BurstWords" "word" "J", Cond.fieldLink RX4 40 "BurstWords" "bound" "I", Cond.instanceMethod yX0_init, Cond.code yX0_init cX0_init 1 none, Cond.methodLink RX0 3 objectInit, Cond.arrayClass .long, Cond.fieldLink RX0 9 "BurstWords$Dictionary" "words" "[J"]
def wsX4_init_r2 : List Cond := [Cond.fieldLink RX0 15 "BurstWords$Dictionary" "often" "[I", Cond.fieldLink RX0 19 "BurstWords$Dictionary" "depths" "[I", Cond.fieldLink RX0 22 "BurstWords$Dictionary" "size" "I", Cond.instanceMethod yX1_init, Cond.code yX1_init cX1_init 1 none, Cond.methodLink RX1 3 objectInit, Cond.fieldLink RX1 9 "BurstWords$History" "words" "[J", Cond.fieldLink RX1 15 "BurstWords$History" "often" "[I", Cond.fieldLink RX1 19 "BurstWords$History" "depths" "[I", Cond.fieldLink RX1 22 "BurstWords$History" "size" "I", Cond.instanceMethod yX2_init, Cond.code yX2_init cX2_init 1 none, Cond.methodLink RX2 3 objectInit, Cond.fieldLink RX2 9 "BurstWords$Sightings" "places" "[I", Cond.fieldLink RX2 15 "BurstWords$Sightings" "letters" "[I", Cond.arrayClass .boolean, Cond.fieldLink RX2 18 "BurstWords$Sightings" "so" "[Z", Cond.fieldLink RX2 22 "BurstWords$Sightings" "size" "I"]
def wsX4_init : List Cond := .code yX4_init cX4_init 1 none :: ((wsX4_init_r1 ++ wsX4_init_r2) ++ wsX00 ++ wsX40 ++ wsX10 ++ wsX20)
def wsX4_type : List Cond := .code yX4_type cX4_type 3 (some .int) :: ([.fieldLink RX4 36 "BurstWords" "word" "J", .methodLink RX4 44 yX3_isLetter, .static yX3_isLetter, .initialized RX3, .code yX3_isLetter cX3_isLetter 1 (some .boolean), .methodLink RX4 48 yX3_lengthOf, .static yX3_lengthOf, .code yX3_lengthOf cX3_lengthOf 3 (some .int), .methodLink RX3 15 yX3_letterAt, .static yX3_letterAt, .code yX3_letterAt cX3_letterAt 3 (some .int), .methodLink RX3 9 yX3_shiftOf, .static yX3_shiftOf, .code yX3_shiftOf cX3_shiftOf 1 (some .int), .methodLink RX4 52 yX3_extended, .static yX3_extended, .code yX3_extended cX3_extended 4 (some .long)] ++ wsX40)
def wsX4_clear : List Cond := .code yX4_clear cX4_clear 2 (some .int) :: ([.fieldLink RX4 36 "BurstWords" "word" "J", .methodLink RX4 48 yX3_lengthOf, .static yX3_lengthOf, .initialized RX3, .code yX3_lengthOf cX3_lengthOf 3 (some .int), .methodLink RX3 15 yX3_letterAt, .static yX3_letterAt, .code yX3_letterAt cX3_letterAt 3 (some .int), .methodLink RX3 9 yX3_shiftOf, .static yX3_shiftOf, .code yX3_shiftOf cX3_shiftOf 1 (some .int)] ++ wsX40)
def wsX4_bounds : List Cond := .code yX4_bounds cX4_bounds 3 (some .int) :: ([.fieldLink RX4 10 "BurstWords" "dictionary" "LBurstWords$Dictionary;", .fieldLink RX4 40 "BurstWords" "bound" "I", .fieldLink RX4 19 "BurstWords" "history" "LBurstWords$History;", .methodLink RX4 56 yX0_size, .instanceMethod yX0_size, .selects RX0 yX0_size yX0_size, .initialized RX0, .code yX0_size cX0_size 1 (some .int), .fieldLink RX0 22 "BurstWords$Dictionary" "size" "I", .methodLink RX4 60 yX1_empty, .instanceMethod yX1_empty, .selects RX1 yX1_empty yX1_empty, .initialized RX1, .code yX1_empty cX1_empty 1 none, .fieldLink RX1 22 "BurstWords$History" "size" "I"] ++ wsX40 ++ wsX00 ++ wsX10)
def wsX4_adds_r1 : List Cond := [Cond.fieldLink RX4 36 "BurstWords" "word" "J", Cond.fieldLink RX4 10 "BurstWords" "dictionary" "LBurstWords$Dictionary;", Cond.fieldLink RX4 19 "BurstWords" "history" "LBurstWords$History;", Cond.fieldLink RX4 40 "BurstWords" "bound" "I", Cond.methodLink RX4 63 yX0_oftenOf, Cond.instanceMethod yX0_oftenOf, Cond.selects RX0 yX0_oftenOf yX0_oftenOf, Cond.initialized RX0, Cond.code yX0_oftenOf cX0_oftenOf 4 (some .int), Cond.methodLink RX0 36 yX0_placeOf, Cond.instanceMethod yX0_placeOf, Cond.selects RX0 yX0_placeOf yX0_placeOf, Cond.code yX0_placeOf cX0_placeOf 4 (some .int), Cond.fieldLink RX0 22 "BurstWords$Dictionary" "size" "I", Cond.methodLink RX0 32 yX0_wordAt, Cond.instanceMethod yX0_wordAt, Cond.selects RX0 yX0_wordAt yX0_wordAt, Cond.code yX0_wordAt cX0_wordAt 2 (some .long), Cond.fieldLink RX0 9 "BurstWords$Dictionary" "words" "[J", Cond.methodLink RX0 26 yX0_has, Cond.instanceMethod yX0_has, Cond.selects RX0 yX0_has yX0_has, Cond.code yX0_has cX0_has 2 (some .boolean), Cond.methodLink RX0 40 yX0_oftenAt]
def wsX4_adds_r2 : List Cond := [Cond.instanceMethod yX0_oftenAt, Cond.selects RX0 yX0_oftenAt yX0_oftenAt, Cond.code yX0_oftenAt cX0_oftenAt 2 (some .int), Cond.fieldLink RX0 15 "BurstWords$Dictionary" "often" "[I", Cond.methodLink RX4 56 yX0_size, Cond.instanceMethod yX0_size, Cond.selects RX0 yX0_size yX0_size, Cond.code yX0_size cX0_size 1 (some .int), Cond.methodLink RX4 66 yX0_depthOf, Cond.instanceMethod yX0_depthOf, Cond.selects RX0 yX0_depthOf yX0_depthOf, Cond.code yX0_depthOf cX0_depthOf 6 (some .int), Cond.methodLink RX0 68 Lib.Math.min.name, Cond.static Lib.Math.min.name, Cond.initialized "java/lang/Math", Cond.code Lib.Math.min.name Lib.Math.min.code 2 (some .int), Cond.methodLink RX0 74 Lib.Math.max.name, Cond.static Lib.Math.max.name, Cond.code Lib.Math.max.name Lib.Math.max.code 2 (some .int), Cond.methodLink RX0 61 yX3_sharedBy, Cond.static yX3_sharedBy, Cond.initialized RX3, Cond.code yX3_sharedBy cX3_sharedBy 5 (some .int), Cond.methodLink RX3 15 yX3_letterAt]
def wsX4_adds_r3 : List Cond := [Cond.static yX3_letterAt, Cond.code yX3_letterAt cX3_letterAt 3 (some .int), Cond.methodLink RX3 9 yX3_shiftOf, Cond.static yX3_shiftOf, Cond.code yX3_shiftOf cX3_shiftOf 1 (some .int), Cond.methodLink RX0 65 yX0_depthAt, Cond.instanceMethod yX0_depthAt, Cond.selects RX0 yX0_depthAt yX0_depthAt, Cond.code yX0_depthAt cX0_depthAt 2 (some .int), Cond.fieldLink RX0 19 "BurstWords$Dictionary" "depths" "[I", Cond.methodLink RX4 69 yX1_push, Cond.instanceMethod yX1_push, Cond.selects RX1 yX1_push yX1_push, Cond.initialized RX1, Cond.code yX1_push cX1_push 5 none, Cond.fieldLink RX1 22 "BurstWords$History" "size" "I", Cond.fieldLink RX1 9 "BurstWords$History" "words" "[J", Cond.fieldLink RX1 15 "BurstWords$History" "often" "[I", Cond.fieldLink RX1 19 "BurstWords$History" "depths" "[I", Cond.methodLink RX1 26 yX1_loseOldest, Cond.instanceMethod yX1_loseOldest, Cond.selects RX1 yX1_loseOldest yX1_loseOldest, Cond.code yX1_loseOldest cX1_loseOldest 1 none, Cond.methodLink RX1 29 arraycopyName]
def wsX4_adds_r4 : List Cond := [Cond.native arraycopyName, Cond.static arraycopyName, Cond.initialized "java/lang/System", Cond.methodLink RX4 73 yX0_put, Cond.instanceMethod yX0_put, Cond.selects RX0 yX0_put yX0_put, Cond.code yX0_put cX0_put 6 none, Cond.methodLink RX0 44 yX0_insert, Cond.instanceMethod yX0_insert, Cond.selects RX0 yX0_insert yX0_insert, Cond.code yX0_insert cX0_insert 7 none, Cond.methodLink RX0 55 arraycopyName, Cond.methodLink RX0 52 yX0_depthOf, Cond.methodLink RX0 48 yX0_remove, Cond.instanceMethod yX0_remove, Cond.selects RX0 yX0_remove yX0_remove, Cond.code yX0_remove cX0_remove 3 none, Cond.methodLink RX4 77 yX0_burstDepth, Cond.instanceMethod yX0_burstDepth, Cond.selects RX0 yX0_burstDepth yX0_burstDepth, Cond.code yX0_burstDepth cX0_burstDepth 7 (some .int), Cond.methodLink RX0 77 yX3_lengthOf, Cond.static yX3_lengthOf, Cond.code yX3_lengthOf cX3_lengthOf 3 (some .int)]
def wsX4_adds_r5 : List Cond := [Cond.methodLink RX0 80 yX0_sharing, Cond.instanceMethod yX0_sharing, Cond.selects RX0 yX0_sharing yX0_sharing, Cond.code yX0_sharing cX0_sharing 6 (some .int), Cond.methodLink RX4 81 yX0_reshape, Cond.instanceMethod yX0_reshape, Cond.selects RX0 yX0_reshape yX0_reshape, Cond.code yX0_reshape cX0_reshape 8 none]
def wsX4_adds : List Cond := .code yX4_adds cX4_adds 3 (some .int) :: ((wsX4_adds_r1 ++ (wsX4_adds_r2 ++ (wsX4_adds_r3 ++ (wsX4_adds_r4 ++ wsX4_adds_r5)))) ++ wsX40 ++ wsX00 ++ wsX10)
def wsX4_takes_r1 : List Cond := [Cond.fieldLink RX4 10 "BurstWords" "dictionary" "LBurstWords$Dictionary;", Cond.fieldLink RX4 36 "BurstWords" "word" "J", Cond.fieldLink RX4 19 "BurstWords" "history" "LBurstWords$History;", Cond.fieldLink RX4 40 "BurstWords" "bound" "I", Cond.methodLink RX4 63 yX0_oftenOf, Cond.instanceMethod yX0_oftenOf, Cond.selects RX0 yX0_oftenOf yX0_oftenOf, Cond.initialized RX0, Cond.code yX0_oftenOf cX0_oftenOf 4 (some .int), Cond.methodLink RX0 36 yX0_placeOf, Cond.instanceMethod yX0_placeOf, Cond.selects RX0 yX0_placeOf yX0_placeOf, Cond.code yX0_placeOf cX0_placeOf 4 (some .int), Cond.fieldLink RX0 22 "BurstWords$Dictionary" "size" "I", Cond.methodLink RX0 32 yX0_wordAt, Cond.instanceMethod yX0_wordAt, Cond.selects RX0 yX0_wordAt yX0_wordAt, Cond.code yX0_wordAt cX0_wordAt 2 (some .long), Cond.fieldLink RX0 9 "BurstWords$Dictionary" "words" "[J", Cond.methodLink RX0 26 yX0_has, Cond.instanceMethod yX0_has, Cond.selects RX0 yX0_has yX0_has, Cond.code yX0_has cX0_has 2 (some .boolean), Cond.methodLink RX0 40 yX0_oftenAt]
def wsX4_takes_r2 : List Cond := [Cond.instanceMethod yX0_oftenAt, Cond.selects RX0 yX0_oftenAt yX0_oftenAt, Cond.code yX0_oftenAt cX0_oftenAt 2 (some .int), Cond.fieldLink RX0 15 "BurstWords$Dictionary" "often" "[I", Cond.methodLink RX4 66 yX0_depthOf, Cond.instanceMethod yX0_depthOf, Cond.selects RX0 yX0_depthOf yX0_depthOf, Cond.code yX0_depthOf cX0_depthOf 6 (some .int), Cond.methodLink RX0 68 Lib.Math.min.name, Cond.static Lib.Math.min.name, Cond.initialized "java/lang/Math", Cond.code Lib.Math.min.name Lib.Math.min.code 2 (some .int), Cond.methodLink RX0 74 Lib.Math.max.name, Cond.static Lib.Math.max.name, Cond.code Lib.Math.max.name Lib.Math.max.code 2 (some .int), Cond.methodLink RX0 61 yX3_sharedBy, Cond.static yX3_sharedBy, Cond.initialized RX3, Cond.code yX3_sharedBy cX3_sharedBy 5 (some .int), Cond.methodLink RX3 15 yX3_letterAt, Cond.static yX3_letterAt, Cond.code yX3_letterAt cX3_letterAt 3 (some .int), Cond.methodLink RX3 9 yX3_shiftOf, Cond.static yX3_shiftOf]
def wsX4_takes_r3 : List Cond := [Cond.code yX3_shiftOf cX3_shiftOf 1 (some .int), Cond.methodLink RX0 65 yX0_depthAt, Cond.instanceMethod yX0_depthAt, Cond.selects RX0 yX0_depthAt yX0_depthAt, Cond.code yX0_depthAt cX0_depthAt 2 (some .int), Cond.fieldLink RX0 19 "BurstWords$Dictionary" "depths" "[I", Cond.methodLink RX4 69 yX1_push, Cond.instanceMethod yX1_push, Cond.selects RX1 yX1_push yX1_push, Cond.initialized RX1, Cond.code yX1_push cX1_push 5 none, Cond.fieldLink RX1 22 "BurstWords$History" "size" "I", Cond.fieldLink RX1 9 "BurstWords$History" "words" "[J", Cond.fieldLink RX1 15 "BurstWords$History" "often" "[I", Cond.fieldLink RX1 19 "BurstWords$History" "depths" "[I", Cond.methodLink RX1 26 yX1_loseOldest, Cond.instanceMethod yX1_loseOldest, Cond.selects RX1 yX1_loseOldest yX1_loseOldest, Cond.code yX1_loseOldest cX1_loseOldest 1 none, Cond.methodLink RX1 29 arraycopyName, Cond.native arraycopyName, Cond.static arraycopyName, Cond.initialized "java/lang/System", Cond.methodLink RX4 73 yX0_put]
def wsX4_takes_r4 : List Cond := [Cond.instanceMethod yX0_put, Cond.selects RX0 yX0_put yX0_put, Cond.code yX0_put cX0_put 6 none, Cond.methodLink RX0 44 yX0_insert, Cond.instanceMethod yX0_insert, Cond.selects RX0 yX0_insert yX0_insert, Cond.code yX0_insert cX0_insert 7 none, Cond.methodLink RX0 55 arraycopyName, Cond.methodLink RX0 52 yX0_depthOf, Cond.methodLink RX0 48 yX0_remove, Cond.instanceMethod yX0_remove, Cond.selects RX0 yX0_remove yX0_remove, Cond.code yX0_remove cX0_remove 3 none, Cond.methodLink RX4 84 yX0_mergedDepth, Cond.instanceMethod yX0_mergedDepth, Cond.selects RX0 yX0_mergedDepth yX0_mergedDepth, Cond.code yX0_mergedDepth cX0_mergedDepth 6 (some .int), Cond.methodLink RX0 80 yX0_sharing, Cond.instanceMethod yX0_sharing, Cond.selects RX0 yX0_sharing yX0_sharing, Cond.code yX0_sharing cX0_sharing 6 (some .int), Cond.methodLink RX4 81 yX0_reshape, Cond.instanceMethod yX0_reshape, Cond.selects RX0 yX0_reshape yX0_reshape]
def wsX4_takes_r5 : List Cond := [Cond.code yX0_reshape cX0_reshape 8 none]
def wsX4_takes : List Cond := .code yX4_takes cX4_takes 3 (some .int) :: ((wsX4_takes_r1 ++ (wsX4_takes_r2 ++ (wsX4_takes_r3 ++ (wsX4_takes_r4 ++ wsX4_takes_r5)))) ++ wsX40 ++ wsX00 ++ wsX10)
def wsX4_undo_r1 : List Cond := [Cond.fieldLink RX4 19 "BurstWords" "history" "LBurstWords$History;", Cond.fieldLink RX4 10 "BurstWords" "dictionary" "LBurstWords$Dictionary;", Cond.methodLink RX4 87 yX1_size, Cond.instanceMethod yX1_size, Cond.selects RX1 yX1_size yX1_size, Cond.initialized RX1, Cond.code yX1_size cX1_size 1 (some .int), Cond.fieldLink RX1 22 "BurstWords$History" "size" "I", Cond.methodLink RX4 88 yX1_lastWord, Cond.instanceMethod yX1_lastWord, Cond.selects RX1 yX1_lastWord yX1_lastWord, Cond.code yX1_lastWord cX1_lastWord 1 (some .long), Cond.fieldLink RX1 9 "BurstWords$History" "words" "[J", Cond.methodLink RX1 35 yX1_hasLast, Cond.instanceMethod yX1_hasLast, Cond.selects RX1 yX1_hasLast yX1_hasLast, Cond.code yX1_hasLast cX1_hasLast 1 (some .boolean), Cond.methodLink RX4 66 yX0_depthOf, Cond.instanceMethod yX0_depthOf, Cond.selects RX0 yX0_depthOf yX0_depthOf, Cond.initialized RX0, Cond.code yX0_depthOf cX0_depthOf 6 (some .int), Cond.fieldLink RX0 22 "BurstWords$Dictionary" "size" "I", Cond.methodLink RX0 68 Lib.Math.min.name]
def wsX4_undo_r2 : List Cond := [Cond.static Lib.Math.min.name, Cond.initialized "java/lang/Math", Cond.code Lib.Math.min.name Lib.Math.min.code 2 (some .int), Cond.methodLink RX0 74 Lib.Math.max.name, Cond.static Lib.Math.max.name, Cond.code Lib.Math.max.name Lib.Math.max.code 2 (some .int), Cond.methodLink RX0 32 yX0_wordAt, Cond.instanceMethod yX0_wordAt, Cond.selects RX0 yX0_wordAt yX0_wordAt, Cond.code yX0_wordAt cX0_wordAt 2 (some .long), Cond.fieldLink RX0 9 "BurstWords$Dictionary" "words" "[J", Cond.methodLink RX0 26 yX0_has, Cond.instanceMethod yX0_has, Cond.selects RX0 yX0_has yX0_has, Cond.code yX0_has cX0_has 2 (some .boolean), Cond.methodLink RX0 61 yX3_sharedBy, Cond.static yX3_sharedBy, Cond.initialized RX3, Cond.code yX3_sharedBy cX3_sharedBy 5 (some .int), Cond.methodLink RX3 15 yX3_letterAt, Cond.static yX3_letterAt, Cond.code yX3_letterAt cX3_letterAt 3 (some .int), Cond.methodLink RX3 9 yX3_shiftOf, Cond.static yX3_shiftOf]
def wsX4_undo_r3 : List Cond := [Cond.code yX3_shiftOf cX3_shiftOf 1 (some .int), Cond.methodLink RX0 65 yX0_depthAt, Cond.instanceMethod yX0_depthAt, Cond.selects RX0 yX0_depthAt yX0_depthAt, Cond.code yX0_depthAt cX0_depthAt 2 (some .int), Cond.fieldLink RX0 19 "BurstWords$Dictionary" "depths" "[I", Cond.methodLink RX4 92 yX1_lastOften, Cond.instanceMethod yX1_lastOften, Cond.selects RX1 yX1_lastOften yX1_lastOften, Cond.code yX1_lastOften cX1_lastOften 1 (some .int), Cond.fieldLink RX1 15 "BurstWords$History" "often" "[I", Cond.methodLink RX4 73 yX0_put, Cond.instanceMethod yX0_put, Cond.selects RX0 yX0_put yX0_put, Cond.code yX0_put cX0_put 6 none, Cond.fieldLink RX0 15 "BurstWords$Dictionary" "often" "[I", Cond.methodLink RX0 36 yX0_placeOf, Cond.instanceMethod yX0_placeOf, Cond.selects RX0 yX0_placeOf yX0_placeOf, Cond.code yX0_placeOf cX0_placeOf 4 (some .int), Cond.methodLink RX0 44 yX0_insert, Cond.instanceMethod yX0_insert, Cond.selects RX0 yX0_insert yX0_insert, Cond.code yX0_insert cX0_insert 7 none]
def wsX4_undo_r4 : List Cond := [Cond.methodLink RX0 55 arraycopyName, Cond.native arraycopyName, Cond.static arraycopyName, Cond.initialized "java/lang/System", Cond.methodLink RX0 52 yX0_depthOf, Cond.methodLink RX0 48 yX0_remove, Cond.instanceMethod yX0_remove, Cond.selects RX0 yX0_remove yX0_remove, Cond.code yX0_remove cX0_remove 3 none, Cond.methodLink RX4 95 yX1_lastDepth, Cond.instanceMethod yX1_lastDepth, Cond.selects RX1 yX1_lastDepth yX1_lastDepth, Cond.code yX1_lastDepth cX1_lastDepth 1 (some .int), Cond.fieldLink RX1 19 "BurstWords$History" "depths" "[I", Cond.methodLink RX4 81 yX0_reshape, Cond.instanceMethod yX0_reshape, Cond.selects RX0 yX0_reshape yX0_reshape, Cond.code yX0_reshape cX0_reshape 8 none, Cond.methodLink RX4 98 yX1_drop, Cond.instanceMethod yX1_drop, Cond.selects RX1 yX1_drop yX1_drop, Cond.code yX1_drop cX1_drop 1 none]
def wsX4_undo : List Cond := .code yX4_undo cX4_undo 4 (some .int) :: ((wsX4_undo_r1 ++ (wsX4_undo_r2 ++ (wsX4_undo_r3 ++ wsX4_undo_r4))) ++ wsX40 ++ wsX10 ++ wsX00)
def wsX4_times_r1 : List Cond := [Cond.fieldLink RX4 10 "BurstWords" "dictionary" "LBurstWords$Dictionary;", Cond.fieldLink RX4 36 "BurstWords" "word" "J", Cond.methodLink RX4 63 yX0_oftenOf, Cond.instanceMethod yX0_oftenOf, Cond.selects RX0 yX0_oftenOf yX0_oftenOf, Cond.initialized RX0, Cond.code yX0_oftenOf cX0_oftenOf 4 (some .int), Cond.methodLink RX0 36 yX0_placeOf, Cond.instanceMethod yX0_placeOf, Cond.selects RX0 yX0_placeOf yX0_placeOf, Cond.code yX0_placeOf cX0_placeOf 4 (some .int), Cond.fieldLink RX0 22 "BurstWords$Dictionary" "size" "I", Cond.methodLink RX0 32 yX0_wordAt, Cond.instanceMethod yX0_wordAt, Cond.selects RX0 yX0_wordAt yX0_wordAt, Cond.code yX0_wordAt cX0_wordAt 2 (some .long), Cond.fieldLink RX0 9 "BurstWords$Dictionary" "words" "[J", Cond.methodLink RX0 26 yX0_has, Cond.instanceMethod yX0_has, Cond.selects RX0 yX0_has yX0_has, Cond.code yX0_has cX0_has 2 (some .boolean), Cond.methodLink RX0 40 yX0_oftenAt, Cond.instanceMethod yX0_oftenAt, Cond.selects RX0 yX0_oftenAt yX0_oftenAt]
def wsX4_times_r2 : List Cond := [Cond.code yX0_oftenAt cX0_oftenAt 2 (some .int), Cond.fieldLink RX0 15 "BurstWords$Dictionary" "often" "[I"]
def wsX4_times : List Cond := .code yX4_times cX4_times 1 (some .int) :: ((wsX4_times_r1 ++ wsX4_times_r2) ++ wsX40 ++ wsX00)
def wsX4_rank_r1 : List Cond := [Cond.fieldLink RX4 10 "BurstWords" "dictionary" "LBurstWords$Dictionary;", Cond.fieldLink RX4 36 "BurstWords" "word" "J", Cond.methodLink RX4 101 yX0_placeOf, Cond.instanceMethod yX0_placeOf, Cond.selects RX0 yX0_placeOf yX0_placeOf, Cond.initialized RX0, Cond.code yX0_placeOf cX0_placeOf 4 (some .int), Cond.fieldLink RX0 22 "BurstWords$Dictionary" "size" "I", Cond.methodLink RX0 32 yX0_wordAt, Cond.instanceMethod yX0_wordAt, Cond.selects RX0 yX0_wordAt yX0_wordAt, Cond.code yX0_wordAt cX0_wordAt 2 (some .long), Cond.fieldLink RX0 9 "BurstWords$Dictionary" "words" "[J", Cond.methodLink RX0 26 yX0_has, Cond.instanceMethod yX0_has, Cond.selects RX0 yX0_has yX0_has, Cond.code yX0_has cX0_has 2 (some .boolean), Cond.methodLink RX4 104 yX0_oftenBelow, Cond.instanceMethod yX0_oftenBelow, Cond.selects RX0 yX0_oftenBelow yX0_oftenBelow, Cond.code yX0_oftenBelow cX0_oftenBelow 4 (some .int), Cond.methodLink RX0 40 yX0_oftenAt, Cond.instanceMethod yX0_oftenAt, Cond.selects RX0 yX0_oftenAt yX0_oftenAt]
def wsX4_rank_r2 : List Cond := [Cond.code yX0_oftenAt cX0_oftenAt 2 (some .int), Cond.fieldLink RX0 15 "BurstWords$Dictionary" "often" "[I"]
def wsX4_rank : List Cond := .code yX4_rank cX4_rank 1 (some .int) :: ((wsX4_rank_r1 ++ wsX4_rank_r2) ++ wsX40 ++ wsX00)
def wsX4_begin_r1 : List Cond := [Cond.fieldLink RX4 10 "BurstWords" "dictionary" "LBurstWords$Dictionary;", Cond.fieldLink RX4 36 "BurstWords" "word" "J", Cond.methodLink RX4 108 yX0_oftenBegun, Cond.instanceMethod yX0_oftenBegun, Cond.selects RX0 yX0_oftenBegun yX0_oftenBegun, Cond.initialized RX0, Cond.code yX0_oftenBegun cX0_oftenBegun 5 (some .int), Cond.fieldLink RX0 22 "BurstWords$Dictionary" "size" "I", Cond.methodLink RX0 32 yX0_wordAt, Cond.instanceMethod yX0_wordAt, Cond.selects RX0 yX0_wordAt yX0_wordAt, Cond.code yX0_wordAt cX0_wordAt 2 (some .long), Cond.fieldLink RX0 9 "BurstWords$Dictionary" "words" "[J", Cond.methodLink RX0 26 yX0_has, Cond.instanceMethod yX0_has, Cond.selects RX0 yX0_has yX0_has, Cond.code yX0_has cX0_has 2 (some .boolean), Cond.methodLink RX0 84 yX3_begins, Cond.static yX3_begins, Cond.initialized RX3, Cond.code yX3_begins cX3_begins 4 (some .boolean), Cond.methodLink RX3 19 yX3_sharedBy, Cond.static yX3_sharedBy, Cond.code yX3_sharedBy cX3_sharedBy 5 (some .int)]
def wsX4_begin_r2 : List Cond := [Cond.methodLink RX3 15 yX3_letterAt, Cond.static yX3_letterAt, Cond.code yX3_letterAt cX3_letterAt 3 (some .int), Cond.methodLink RX3 9 yX3_shiftOf, Cond.static yX3_shiftOf, Cond.code yX3_shiftOf cX3_shiftOf 1 (some .int), Cond.methodLink RX3 23 yX3_lengthOf, Cond.static yX3_lengthOf, Cond.code yX3_lengthOf cX3_lengthOf 3 (some .int), Cond.methodLink RX0 40 yX0_oftenAt, Cond.instanceMethod yX0_oftenAt, Cond.selects RX0 yX0_oftenAt yX0_oftenAt, Cond.code yX0_oftenAt cX0_oftenAt 2 (some .int), Cond.fieldLink RX0 15 "BurstWords$Dictionary" "often" "[I"]
def wsX4_begin : List Cond := .code yX4_begin cX4_begin 1 (some .int) :: ((wsX4_begin_r1 ++ wsX4_begin_r2) ++ wsX40 ++ wsX00)
def wsX4_depth_r1 : List Cond := [Cond.fieldLink RX4 10 "BurstWords" "dictionary" "LBurstWords$Dictionary;", Cond.fieldLink RX4 36 "BurstWords" "word" "J", Cond.methodLink RX4 66 yX0_depthOf, Cond.instanceMethod yX0_depthOf, Cond.selects RX0 yX0_depthOf yX0_depthOf, Cond.initialized RX0, Cond.code yX0_depthOf cX0_depthOf 6 (some .int), Cond.fieldLink RX0 22 "BurstWords$Dictionary" "size" "I", Cond.methodLink RX0 68 Lib.Math.min.name, Cond.static Lib.Math.min.name, Cond.initialized "java/lang/Math", Cond.code Lib.Math.min.name Lib.Math.min.code 2 (some .int), Cond.methodLink RX0 74 Lib.Math.max.name, Cond.static Lib.Math.max.name, Cond.code Lib.Math.max.name Lib.Math.max.code 2 (some .int), Cond.methodLink RX0 32 yX0_wordAt, Cond.instanceMethod yX0_wordAt, Cond.selects RX0 yX0_wordAt yX0_wordAt, Cond.code yX0_wordAt cX0_wordAt 2 (some .long), Cond.fieldLink RX0 9 "BurstWords$Dictionary" "words" "[J", Cond.methodLink RX0 26 yX0_has, Cond.instanceMethod yX0_has, Cond.selects RX0 yX0_has yX0_has, Cond.code yX0_has cX0_has 2 (some .boolean)]
def wsX4_depth_r2 : List Cond := [Cond.methodLink RX0 61 yX3_sharedBy, Cond.static yX3_sharedBy, Cond.initialized RX3, Cond.code yX3_sharedBy cX3_sharedBy 5 (some .int), Cond.methodLink RX3 15 yX3_letterAt, Cond.static yX3_letterAt, Cond.code yX3_letterAt cX3_letterAt 3 (some .int), Cond.methodLink RX3 9 yX3_shiftOf, Cond.static yX3_shiftOf, Cond.code yX3_shiftOf cX3_shiftOf 1 (some .int), Cond.methodLink RX0 65 yX0_depthAt, Cond.instanceMethod yX0_depthAt, Cond.selects RX0 yX0_depthAt yX0_depthAt, Cond.code yX0_depthAt cX0_depthAt 2 (some .int), Cond.fieldLink RX0 19 "BurstWords$Dictionary" "depths" "[I"]
def wsX4_depth : List Cond := .code yX4_depth cX4_depth 1 (some .int) :: ((wsX4_depth_r1 ++ wsX4_depth_r2) ++ wsX40 ++ wsX00)
def wsX4_isHalf : List Cond := .code yX4_isHalf cX4_isHalf 1 (some .boolean) :: ([])
def wsX4_container_r1 : List Cond := [Cond.fieldLink RX4 10 "BurstWords" "dictionary" "LBurstWords$Dictionary;", Cond.fieldLink RX4 36 "BurstWords" "word" "J", Cond.methodLink RX4 111 yX4_isHalf, Cond.static yX4_isHalf, Cond.initialized RX4, Cond.code yX4_isHalf cX4_isHalf 1 (some .boolean), Cond.methodLink RX4 66 yX0_depthOf, Cond.instanceMethod yX0_depthOf, Cond.selects RX0 yX0_depthOf yX0_depthOf, Cond.initialized RX0, Cond.code yX0_depthOf cX0_depthOf 6 (some .int), Cond.fieldLink RX0 22 "BurstWords$Dictionary" "size" "I", Cond.methodLink RX0 68 Lib.Math.min.name, Cond.static Lib.Math.min.name, Cond.initialized "java/lang/Math", Cond.code Lib.Math.min.name Lib.Math.min.code 2 (some .int), Cond.methodLink RX0 74 Lib.Math.max.name, Cond.static Lib.Math.max.name, Cond.code Lib.Math.max.name Lib.Math.max.code 2 (some .int), Cond.methodLink RX0 32 yX0_wordAt, Cond.instanceMethod yX0_wordAt, Cond.selects RX0 yX0_wordAt yX0_wordAt, Cond.code yX0_wordAt cX0_wordAt 2 (some .long), Cond.fieldLink RX0 9 "BurstWords$Dictionary" "words" "[J"]
def wsX4_container_r2 : List Cond := [Cond.methodLink RX0 26 yX0_has, Cond.instanceMethod yX0_has, Cond.selects RX0 yX0_has yX0_has, Cond.code yX0_has cX0_has 2 (some .boolean), Cond.methodLink RX0 61 yX3_sharedBy, Cond.static yX3_sharedBy, Cond.initialized RX3, Cond.code yX3_sharedBy cX3_sharedBy 5 (some .int), Cond.methodLink RX3 15 yX3_letterAt, Cond.static yX3_letterAt, Cond.code yX3_letterAt cX3_letterAt 3 (some .int), Cond.methodLink RX3 9 yX3_shiftOf, Cond.static yX3_shiftOf, Cond.code yX3_shiftOf cX3_shiftOf 1 (some .int), Cond.methodLink RX0 65 yX0_depthAt, Cond.instanceMethod yX0_depthAt, Cond.selects RX0 yX0_depthAt yX0_depthAt, Cond.code yX0_depthAt cX0_depthAt 2 (some .int), Cond.fieldLink RX0 19 "BurstWords$Dictionary" "depths" "[I", Cond.methodLink RX4 48 yX3_lengthOf, Cond.static yX3_lengthOf, Cond.code yX3_lengthOf cX3_lengthOf 3 (some .int), Cond.methodLink RX4 114 yX0_sharing, Cond.instanceMethod yX0_sharing]
def wsX4_container_r3 : List Cond := [Cond.selects RX0 yX0_sharing yX0_sharing, Cond.code yX0_sharing cX0_sharing 6 (some .int)]
def wsX4_container : List Cond := .code yX4_container cX4_container 4 (some .int) :: ((wsX4_container_r1 ++ (wsX4_container_r2 ++ wsX4_container_r3)) ++ wsX40 ++ wsX00)
def wsX4_telling_r1 : List Cond := [Cond.fieldLink RX4 10 "BurstWords" "dictionary" "LBurstWords$Dictionary;", Cond.fieldLink RX4 36 "BurstWords" "word" "J", Cond.methodLink RX4 63 yX0_oftenOf, Cond.instanceMethod yX0_oftenOf, Cond.selects RX0 yX0_oftenOf yX0_oftenOf, Cond.initialized RX0, Cond.code yX0_oftenOf cX0_oftenOf 4 (some .int), Cond.methodLink RX0 36 yX0_placeOf, Cond.instanceMethod yX0_placeOf, Cond.selects RX0 yX0_placeOf yX0_placeOf, Cond.code yX0_placeOf cX0_placeOf 4 (some .int), Cond.fieldLink RX0 22 "BurstWords$Dictionary" "size" "I", Cond.methodLink RX0 32 yX0_wordAt, Cond.instanceMethod yX0_wordAt, Cond.selects RX0 yX0_wordAt yX0_wordAt, Cond.code yX0_wordAt cX0_wordAt 2 (some .long), Cond.fieldLink RX0 9 "BurstWords$Dictionary" "words" "[J", Cond.methodLink RX0 26 yX0_has, Cond.instanceMethod yX0_has, Cond.selects RX0 yX0_has yX0_has, Cond.code yX0_has cX0_has 2 (some .boolean), Cond.methodLink RX0 40 yX0_oftenAt, Cond.instanceMethod yX0_oftenAt, Cond.selects RX0 yX0_oftenAt yX0_oftenAt]
def wsX4_telling_r2 : List Cond := [Cond.code yX0_oftenAt cX0_oftenAt 2 (some .int), Cond.fieldLink RX0 15 "BurstWords$Dictionary" "often" "[I", Cond.methodLink RX4 118 yX0_mostSharedWithOthers, Cond.instanceMethod yX0_mostSharedWithOthers, Cond.selects RX0 yX0_mostSharedWithOthers yX0_mostSharedWithOthers, Cond.code yX0_mostSharedWithOthers cX0_mostSharedWithOthers 5 (some .int), Cond.methodLink RX0 74 Lib.Math.max.name, Cond.static Lib.Math.max.name, Cond.initialized "java/lang/Math", Cond.code Lib.Math.max.name Lib.Math.max.code 2 (some .int), Cond.methodLink RX0 61 yX3_sharedBy, Cond.static yX3_sharedBy, Cond.initialized RX3, Cond.code yX3_sharedBy cX3_sharedBy 5 (some .int), Cond.methodLink RX3 15 yX3_letterAt, Cond.static yX3_letterAt, Cond.code yX3_letterAt cX3_letterAt 3 (some .int), Cond.methodLink RX3 9 yX3_shiftOf, Cond.static yX3_shiftOf, Cond.code yX3_shiftOf cX3_shiftOf 1 (some .int)]
def wsX4_telling : List Cond := .code yX4_telling cX4_telling 1 (some .int) :: ((wsX4_telling_r1 ++ wsX4_telling_r2) ++ wsX40 ++ wsX00)
def wsX4_longest_r1 : List Cond := [Cond.fieldLink RX4 10 "BurstWords" "dictionary" "LBurstWords$Dictionary;", Cond.fieldLink RX4 36 "BurstWords" "word" "J", Cond.methodLink RX4 121 yX0_longestIn, Cond.instanceMethod yX0_longestIn, Cond.selects RX0 yX0_longestIn yX0_longestIn, Cond.initialized RX0, Cond.code yX0_longestIn cX0_longestIn 5 (some .int), Cond.fieldLink RX0 22 "BurstWords$Dictionary" "size" "I", Cond.methodLink RX0 74 Lib.Math.max.name, Cond.static Lib.Math.max.name, Cond.initialized "java/lang/Math", Cond.code Lib.Math.max.name Lib.Math.max.code 2 (some .int), Cond.methodLink RX0 32 yX0_wordAt, Cond.instanceMethod yX0_wordAt, Cond.selects RX0 yX0_wordAt yX0_wordAt, Cond.code yX0_wordAt cX0_wordAt 2 (some .long), Cond.fieldLink RX0 9 "BurstWords$Dictionary" "words" "[J", Cond.methodLink RX0 26 yX0_has, Cond.instanceMethod yX0_has, Cond.selects RX0 yX0_has yX0_has, Cond.code yX0_has cX0_has 2 (some .boolean), Cond.methodLink RX0 84 yX3_begins, Cond.static yX3_begins, Cond.initialized RX3]
def wsX4_longest_r2 : List Cond := [Cond.code yX3_begins cX3_begins 4 (some .boolean), Cond.methodLink RX3 19 yX3_sharedBy, Cond.static yX3_sharedBy, Cond.code yX3_sharedBy cX3_sharedBy 5 (some .int), Cond.methodLink RX3 15 yX3_letterAt, Cond.static yX3_letterAt, Cond.code yX3_letterAt cX3_letterAt 3 (some .int), Cond.methodLink RX3 9 yX3_shiftOf, Cond.static yX3_shiftOf, Cond.code yX3_shiftOf cX3_shiftOf 1 (some .int), Cond.methodLink RX3 23 yX3_lengthOf, Cond.static yX3_lengthOf, Cond.code yX3_lengthOf cX3_lengthOf 3 (some .int), Cond.methodLink RX0 77 yX3_lengthOf]
def wsX4_longest : List Cond := .code yX4_longest cX4_longest 2 (some .int) :: ((wsX4_longest_r1 ++ wsX4_longest_r2) ++ wsX40 ++ wsX00)
def wsX4_like_r1 : List Cond := [Cond.fieldLink RX4 10 "BurstWords" "dictionary" "LBurstWords$Dictionary;", Cond.fieldLink RX4 36 "BurstWords" "word" "J", Cond.methodLink RX4 124 yX0_alike, Cond.instanceMethod yX0_alike, Cond.selects RX0 yX0_alike yX0_alike, Cond.initialized RX0, Cond.code yX0_alike cX0_alike 7 (some .int), Cond.fieldLink RX0 22 "BurstWords$Dictionary" "size" "I", Cond.methodLink RX0 77 yX3_lengthOf, Cond.static yX3_lengthOf, Cond.initialized RX3, Cond.code yX3_lengthOf cX3_lengthOf 3 (some .int), Cond.methodLink RX3 15 yX3_letterAt, Cond.static yX3_letterAt, Cond.code yX3_letterAt cX3_letterAt 3 (some .int), Cond.methodLink RX3 9 yX3_shiftOf, Cond.static yX3_shiftOf, Cond.code yX3_shiftOf cX3_shiftOf 1 (some .int), Cond.methodLink RX0 32 yX0_wordAt, Cond.instanceMethod yX0_wordAt, Cond.selects RX0 yX0_wordAt yX0_wordAt, Cond.code yX0_wordAt cX0_wordAt 2 (some .long), Cond.fieldLink RX0 9 "BurstWords$Dictionary" "words" "[J", Cond.methodLink RX0 26 yX0_has]
def wsX4_like_r2 : List Cond := [Cond.instanceMethod yX0_has, Cond.selects RX0 yX0_has yX0_has, Cond.code yX0_has cX0_has 2 (some .boolean), Cond.methodLink RX0 88 yX3_differences, Cond.static yX3_differences, Cond.code yX3_differences cX3_differences 6 (some .int)]
def wsX4_like : List Cond := .code yX4_like cX4_like 2 (some .int) :: ((wsX4_like_r1 ++ wsX4_like_r2) ++ wsX40 ++ wsX00)
def wsX4_commonDivisor : List Cond := .code yX4_commonDivisor cX4_commonDivisor 6 (some .int) :: ([])
def wsX4_odds_r1 : List Cond := [Cond.fieldLink RX4 10 "BurstWords" "dictionary" "LBurstWords$Dictionary;", Cond.fieldLink RX4 36 "BurstWords" "word" "J", Cond.methodLink RX4 111 yX4_isHalf, Cond.static yX4_isHalf, Cond.initialized RX4, Cond.code yX4_isHalf cX4_isHalf 1 (some .boolean), Cond.methodLink RX4 56 yX0_size, Cond.instanceMethod yX0_size, Cond.selects RX0 yX0_size yX0_size, Cond.initialized RX0, Cond.code yX0_size cX0_size 1 (some .int), Cond.fieldLink RX0 22 "BurstWords$Dictionary" "size" "I", Cond.methodLink RX4 104 yX0_oftenBelow, Cond.instanceMethod yX0_oftenBelow, Cond.selects RX0 yX0_oftenBelow yX0_oftenBelow, Cond.code yX0_oftenBelow cX0_oftenBelow 4 (some .int), Cond.methodLink RX0 40 yX0_oftenAt, Cond.instanceMethod yX0_oftenAt, Cond.selects RX0 yX0_oftenAt yX0_oftenAt, Cond.code yX0_oftenAt cX0_oftenAt 2 (some .int), Cond.fieldLink RX0 15 "BurstWords$Dictionary" "often" "[I", Cond.methodLink RX0 26 yX0_has, Cond.instanceMethod yX0_has, Cond.selects RX0 yX0_has yX0_has]
def wsX4_odds_r2 : List Cond := [Cond.code yX0_has cX0_has 2 (some .boolean), Cond.methodLink RX4 108 yX0_oftenBegun, Cond.instanceMethod yX0_oftenBegun, Cond.selects RX0 yX0_oftenBegun yX0_oftenBegun, Cond.code yX0_oftenBegun cX0_oftenBegun 5 (some .int), Cond.methodLink RX0 32 yX0_wordAt, Cond.instanceMethod yX0_wordAt, Cond.selects RX0 yX0_wordAt yX0_wordAt, Cond.code yX0_wordAt cX0_wordAt 2 (some .long), Cond.fieldLink RX0 9 "BurstWords$Dictionary" "words" "[J", Cond.methodLink RX0 84 yX3_begins, Cond.static yX3_begins, Cond.initialized RX3, Cond.code yX3_begins cX3_begins 4 (some .boolean), Cond.methodLink RX3 19 yX3_sharedBy, Cond.static yX3_sharedBy, Cond.code yX3_sharedBy cX3_sharedBy 5 (some .int), Cond.methodLink RX3 15 yX3_letterAt, Cond.static yX3_letterAt, Cond.code yX3_letterAt cX3_letterAt 3 (some .int), Cond.methodLink RX3 9 yX3_shiftOf, Cond.static yX3_shiftOf, Cond.code yX3_shiftOf cX3_shiftOf 1 (some .int), Cond.methodLink RX3 23 yX3_lengthOf]
def wsX4_odds_r3 : List Cond := [Cond.static yX3_lengthOf, Cond.code yX3_lengthOf cX3_lengthOf 3 (some .int), Cond.methodLink RX4 127 yX4_commonDivisor, Cond.static yX4_commonDivisor, Cond.code yX4_commonDivisor cX4_commonDivisor 6 (some .int)]
def wsX4_odds : List Cond := .code yX4_odds cX4_odds 5 (some .int) :: ((wsX4_odds_r1 ++ (wsX4_odds_r2 ++ wsX4_odds_r3)) ++ wsX40 ++ wsX00)
def wsX4_isAsked : List Cond := .code yX4_isAsked cX4_isAsked 1 (some .boolean) :: ([])
def wsX4_told_r1 : List Cond := [Cond.fieldLink RX4 10 "BurstWords" "dictionary" "LBurstWords$Dictionary;", Cond.methodLink RX4 56 yX0_size, Cond.instanceMethod yX0_size, Cond.selects RX0 yX0_size yX0_size, Cond.initialized RX0, Cond.code yX0_size cX0_size 1 (some .int), Cond.fieldLink RX0 22 "BurstWords$Dictionary" "size" "I", Cond.methodLink RX4 148 yX0_wordAt, Cond.instanceMethod yX0_wordAt, Cond.selects RX0 yX0_wordAt yX0_wordAt, Cond.code yX0_wordAt cX0_wordAt 2 (some .long), Cond.fieldLink RX0 9 "BurstWords$Dictionary" "words" "[J", Cond.methodLink RX0 26 yX0_has, Cond.instanceMethod yX0_has, Cond.selects RX0 yX0_has yX0_has, Cond.code yX0_has cX0_has 2 (some .boolean), Cond.methodLink RX4 48 yX3_lengthOf, Cond.static yX3_lengthOf, Cond.initialized RX3, Cond.code yX3_lengthOf cX3_lengthOf 3 (some .int), Cond.methodLink RX3 15 yX3_letterAt, Cond.static yX3_letterAt, Cond.code yX3_letterAt cX3_letterAt 3 (some .int), Cond.methodLink RX3 9 yX3_shiftOf]
def wsX4_told_r2 : List Cond := [Cond.static yX3_shiftOf, Cond.code yX3_shiftOf cX3_shiftOf 1 (some .int), Cond.methodLink RX4 189 yX3_letterAt]
def wsX4_told : List Cond := .code yX4_told cX4_told 6 (some .int) :: ((wsX4_told_r1 ++ wsX4_told_r2) ++ wsX40 ++ wsX00)
def wsX4_kth_r1 : List Cond := [Cond.fieldLink RX4 10 "BurstWords" "dictionary" "LBurstWords$Dictionary;", Cond.methodLink RX4 131 yX4_isAsked, Cond.static yX4_isAsked, Cond.initialized RX4, Cond.code yX4_isAsked cX4_isAsked 1 (some .boolean), Cond.methodLink RX4 134 yX0_holderOf, Cond.instanceMethod yX0_holderOf, Cond.selects RX0 yX0_holderOf yX0_holderOf, Cond.initialized RX0, Cond.code yX0_holderOf cX0_holderOf 4 (some .int), Cond.fieldLink RX0 22 "BurstWords$Dictionary" "size" "I", Cond.methodLink RX0 40 yX0_oftenAt, Cond.instanceMethod yX0_oftenAt, Cond.selects RX0 yX0_oftenAt yX0_oftenAt, Cond.code yX0_oftenAt cX0_oftenAt 2 (some .int), Cond.fieldLink RX0 15 "BurstWords$Dictionary" "often" "[I", Cond.methodLink RX0 26 yX0_has, Cond.instanceMethod yX0_has, Cond.selects RX0 yX0_has yX0_has, Cond.code yX0_has cX0_has 2 (some .boolean), Cond.methodLink RX4 137 yX4_told, Cond.instanceMethod yX4_told, Cond.selects RX4 yX4_told yX4_told, Cond.code yX4_told cX4_told 6 (some .int)]
def wsX4_kth_r2 : List Cond := [Cond.methodLink RX4 56 yX0_size, Cond.instanceMethod yX0_size, Cond.selects RX0 yX0_size yX0_size, Cond.code yX0_size cX0_size 1 (some .int), Cond.methodLink RX4 148 yX0_wordAt, Cond.instanceMethod yX0_wordAt, Cond.selects RX0 yX0_wordAt yX0_wordAt, Cond.code yX0_wordAt cX0_wordAt 2 (some .long), Cond.fieldLink RX0 9 "BurstWords$Dictionary" "words" "[J", Cond.methodLink RX4 48 yX3_lengthOf, Cond.static yX3_lengthOf, Cond.initialized RX3, Cond.code yX3_lengthOf cX3_lengthOf 3 (some .int), Cond.methodLink RX3 15 yX3_letterAt, Cond.static yX3_letterAt, Cond.code yX3_letterAt cX3_letterAt 3 (some .int), Cond.methodLink RX3 9 yX3_shiftOf, Cond.static yX3_shiftOf, Cond.code yX3_shiftOf cX3_shiftOf 1 (some .int), Cond.methodLink RX4 189 yX3_letterAt]
def wsX4_kth : List Cond := .code yX4_kth cX4_kth 3 (some .int) :: ((wsX4_kth_r1 ++ wsX4_kth_r2) ++ wsX40 ++ wsX00)
def wsX4_unlike_r1 : List Cond := [Cond.methodLink RX4 131 yX4_isAsked, Cond.static yX4_isAsked, Cond.initialized RX4, Cond.code yX4_isAsked cX4_isAsked 1 (some .boolean), Cond.methodLink RX4 137 yX4_told, Cond.instanceMethod yX4_told, Cond.selects RX4 yX4_told yX4_told, Cond.code yX4_told cX4_told 6 (some .int), Cond.fieldLink RX4 10 "BurstWords" "dictionary" "LBurstWords$Dictionary;", Cond.methodLink RX4 56 yX0_size, Cond.instanceMethod yX0_size, Cond.selects RX0 yX0_size yX0_size, Cond.initialized RX0, Cond.code yX0_size cX0_size 1 (some .int), Cond.fieldLink RX0 22 "BurstWords$Dictionary" "size" "I", Cond.methodLink RX4 148 yX0_wordAt, Cond.instanceMethod yX0_wordAt, Cond.selects RX0 yX0_wordAt yX0_wordAt, Cond.code yX0_wordAt cX0_wordAt 2 (some .long), Cond.fieldLink RX0 9 "BurstWords$Dictionary" "words" "[J", Cond.methodLink RX0 26 yX0_has, Cond.instanceMethod yX0_has, Cond.selects RX0 yX0_has yX0_has, Cond.code yX0_has cX0_has 2 (some .boolean)]
def wsX4_unlike_r2 : List Cond := [Cond.methodLink RX4 48 yX3_lengthOf, Cond.static yX3_lengthOf, Cond.initialized RX3, Cond.code yX3_lengthOf cX3_lengthOf 3 (some .int), Cond.methodLink RX3 15 yX3_letterAt, Cond.static yX3_letterAt, Cond.code yX3_letterAt cX3_letterAt 3 (some .int), Cond.methodLink RX3 9 yX3_shiftOf, Cond.static yX3_shiftOf, Cond.code yX3_shiftOf cX3_shiftOf 1 (some .int), Cond.methodLink RX4 189 yX3_letterAt]
def wsX4_unlike : List Cond := .code yX4_unlike cX4_unlike 3 (some .int) :: ((wsX4_unlike_r1 ++ wsX4_unlike_r2) ++ wsX40 ++ wsX00)
def wsX4_next_r1 : List Cond := [Cond.fieldLink RX4 10 "BurstWords" "dictionary" "LBurstWords$Dictionary;", Cond.fieldLink RX4 36 "BurstWords" "word" "J", Cond.methodLink RX4 131 yX4_isAsked, Cond.static yX4_isAsked, Cond.initialized RX4, Cond.code yX4_isAsked cX4_isAsked 1 (some .boolean), Cond.methodLink RX4 101 yX0_placeOf, Cond.instanceMethod yX0_placeOf, Cond.selects RX0 yX0_placeOf yX0_placeOf, Cond.initialized RX0, Cond.code yX0_placeOf cX0_placeOf 4 (some .int), Cond.fieldLink RX0 22 "BurstWords$Dictionary" "size" "I", Cond.methodLink RX0 32 yX0_wordAt, Cond.instanceMethod yX0_wordAt, Cond.selects RX0 yX0_wordAt yX0_wordAt, Cond.code yX0_wordAt cX0_wordAt 2 (some .long), Cond.fieldLink RX0 9 "BurstWords$Dictionary" "words" "[J", Cond.methodLink RX0 26 yX0_has, Cond.instanceMethod yX0_has, Cond.selects RX0 yX0_has yX0_has, Cond.code yX0_has cX0_has 2 (some .boolean), Cond.methodLink RX4 63 yX0_oftenOf, Cond.instanceMethod yX0_oftenOf, Cond.selects RX0 yX0_oftenOf yX0_oftenOf]
def wsX4_next_r2 : List Cond := [Cond.code yX0_oftenOf cX0_oftenOf 4 (some .int), Cond.methodLink RX0 36 yX0_placeOf, Cond.methodLink RX0 40 yX0_oftenAt, Cond.instanceMethod yX0_oftenAt, Cond.selects RX0 yX0_oftenAt yX0_oftenAt, Cond.code yX0_oftenAt cX0_oftenAt 2 (some .int), Cond.fieldLink RX0 15 "BurstWords$Dictionary" "often" "[I", Cond.methodLink RX4 137 yX4_told, Cond.instanceMethod yX4_told, Cond.selects RX4 yX4_told yX4_told, Cond.code yX4_told cX4_told 6 (some .int), Cond.methodLink RX4 56 yX0_size, Cond.instanceMethod yX0_size, Cond.selects RX0 yX0_size yX0_size, Cond.code yX0_size cX0_size 1 (some .int), Cond.methodLink RX4 148 yX0_wordAt, Cond.methodLink RX4 48 yX3_lengthOf, Cond.static yX3_lengthOf, Cond.initialized RX3, Cond.code yX3_lengthOf cX3_lengthOf 3 (some .int), Cond.methodLink RX3 15 yX3_letterAt, Cond.static yX3_letterAt, Cond.code yX3_letterAt cX3_letterAt 3 (some .int), Cond.methodLink RX3 9 yX3_shiftOf]
def wsX4_next_r3 : List Cond := [Cond.static yX3_shiftOf, Cond.code yX3_shiftOf cX3_shiftOf 1 (some .int), Cond.methodLink RX4 189 yX3_letterAt]
def wsX4_next : List Cond := .code yX4_next cX4_next 3 (some .int) :: ((wsX4_next_r1 ++ (wsX4_next_r2 ++ wsX4_next_r3)) ++ wsX40 ++ wsX00)
def wsX4_top_r1 : List Cond := [Cond.fieldLink RX4 10 "BurstWords" "dictionary" "LBurstWords$Dictionary;", Cond.fieldLink RX4 36 "BurstWords" "word" "J", Cond.methodLink RX4 131 yX4_isAsked, Cond.static yX4_isAsked, Cond.initialized RX4, Cond.code yX4_isAsked cX4_isAsked 1 (some .boolean), Cond.methodLink RX4 140 yX0_frequent, Cond.instanceMethod yX0_frequent, Cond.selects RX0 yX0_frequent yX0_frequent, Cond.initialized RX0, Cond.code yX0_frequent cX0_frequent 5 (some .int), Cond.fieldLink RX0 22 "BurstWords$Dictionary" "size" "I", Cond.methodLink RX0 32 yX0_wordAt, Cond.instanceMethod yX0_wordAt, Cond.selects RX0 yX0_wordAt yX0_wordAt, Cond.code yX0_wordAt cX0_wordAt 2 (some .long), Cond.fieldLink RX0 9 "BurstWords$Dictionary" "words" "[J", Cond.methodLink RX0 26 yX0_has, Cond.instanceMethod yX0_has, Cond.selects RX0 yX0_has yX0_has, Cond.code yX0_has cX0_has 2 (some .boolean), Cond.methodLink RX0 84 yX3_begins, Cond.static yX3_begins, Cond.initialized RX3]
def wsX4_top_r2 : List Cond := [Cond.code yX3_begins cX3_begins 4 (some .boolean), Cond.methodLink RX3 19 yX3_sharedBy, Cond.static yX3_sharedBy, Cond.code yX3_sharedBy cX3_sharedBy 5 (some .int), Cond.methodLink RX3 15 yX3_letterAt, Cond.static yX3_letterAt, Cond.code yX3_letterAt cX3_letterAt 3 (some .int), Cond.methodLink RX3 9 yX3_shiftOf, Cond.static yX3_shiftOf, Cond.code yX3_shiftOf cX3_shiftOf 1 (some .int), Cond.methodLink RX3 23 yX3_lengthOf, Cond.static yX3_lengthOf, Cond.code yX3_lengthOf cX3_lengthOf 3 (some .int), Cond.methodLink RX0 91 yX0_moreFrequent, Cond.instanceMethod yX0_moreFrequent, Cond.selects RX0 yX0_moreFrequent yX0_moreFrequent, Cond.code yX0_moreFrequent cX0_moreFrequent 7 (some .int), Cond.methodLink RX0 40 yX0_oftenAt, Cond.instanceMethod yX0_oftenAt, Cond.selects RX0 yX0_oftenAt yX0_oftenAt, Cond.code yX0_oftenAt cX0_oftenAt 2 (some .int), Cond.fieldLink RX0 15 "BurstWords$Dictionary" "often" "[I", Cond.methodLink RX4 137 yX4_told, Cond.instanceMethod yX4_told]
def wsX4_top_r3 : List Cond := [Cond.selects RX4 yX4_told yX4_told, Cond.code yX4_told cX4_told 6 (some .int), Cond.methodLink RX4 56 yX0_size, Cond.instanceMethod yX0_size, Cond.selects RX0 yX0_size yX0_size, Cond.code yX0_size cX0_size 1 (some .int), Cond.methodLink RX4 148 yX0_wordAt, Cond.methodLink RX4 48 yX3_lengthOf, Cond.methodLink RX4 189 yX3_letterAt]
def wsX4_top : List Cond := .code yX4_top cX4_top 3 (some .int) :: ((wsX4_top_r1 ++ (wsX4_top_r2 ++ wsX4_top_r3)) ++ wsX40 ++ wsX00)
def wsX4_sees : List Cond := .code yX4_sees cX4_sees 4 (some .int) :: ([.fieldLink RX4 26 "BurstWords" "sightings" "LBurstWords$Sightings;", .methodLink RX4 44 yX3_isLetter, .static yX3_isLetter, .initialized RX3, .code yX3_isLetter cX3_isLetter 1 (some .boolean), .methodLink RX4 111 yX4_isHalf, .static yX4_isHalf, .initialized RX4, .code yX4_isHalf cX4_isHalf 1 (some .boolean), .methodLink RX4 143 yX2_size, .instanceMethod yX2_size, .selects RX2 yX2_size yX2_size, .initialized RX2, .code yX2_size cX2_size 1 (some .int), .fieldLink RX2 22 "BurstWords$Sightings" "size" "I", .methodLink RX4 144 yX2_push, .instanceMethod yX2_push, .selects RX2 yX2_push yX2_push, .code yX2_push cX2_push 4 none, .fieldLink RX2 9 "BurstWords$Sightings" "places" "[I", .fieldLink RX2 15 "BurstWords$Sightings" "letters" "[I", .fieldLink RX2 18 "BurstWords$Sightings" "so" "[Z"] ++ wsX40 ++ wsX20)
def wsX4_forget : List Cond := .code yX4_forget cX4_forget 2 (some .int) :: ([.fieldLink RX4 26 "BurstWords" "sightings" "LBurstWords$Sightings;", .methodLink RX4 143 yX2_size, .instanceMethod yX2_size, .selects RX2 yX2_size yX2_size, .initialized RX2, .code yX2_size cX2_size 1 (some .int), .fieldLink RX2 22 "BurstWords$Sightings" "size" "I", .methodLink RX4 147 yX2_empty, .instanceMethod yX2_empty, .selects RX2 yX2_empty yX2_empty, .code yX2_empty cX2_empty 1 none] ++ wsX40 ++ wsX20)
def wsX4_fit_r1 : List Cond := [Cond.fieldLink RX4 10 "BurstWords" "dictionary" "LBurstWords$Dictionary;", Cond.fieldLink RX4 26 "BurstWords" "sightings" "LBurstWords$Sightings;", Cond.methodLink RX4 111 yX4_isHalf, Cond.static yX4_isHalf, Cond.initialized RX4, Cond.code yX4_isHalf cX4_isHalf 1 (some .boolean), Cond.methodLink RX4 56 yX0_size, Cond.instanceMethod yX0_size, Cond.selects RX0 yX0_size yX0_size, Cond.initialized RX0, Cond.code yX0_size cX0_size 1 (some .int), Cond.fieldLink RX0 22 "BurstWords$Dictionary" "size" "I", Cond.methodLink RX4 148 yX0_wordAt, Cond.instanceMethod yX0_wordAt, Cond.selects RX0 yX0_wordAt yX0_wordAt, Cond.code yX0_wordAt cX0_wordAt 2 (some .long), Cond.fieldLink RX0 9 "BurstWords$Dictionary" "words" "[J", Cond.methodLink RX0 26 yX0_has, Cond.instanceMethod yX0_has, Cond.selects RX0 yX0_has yX0_has, Cond.code yX0_has cX0_has 2 (some .boolean), Cond.methodLink RX4 152 yX2_allow, Cond.instanceMethod yX2_allow, Cond.selects RX2 yX2_allow yX2_allow]
def wsX4_fit_r2 : List Cond := [Cond.initialized RX2, Cond.code yX2_allow cX2_allow 5 (some .boolean), Cond.fieldLink RX2 22 "BurstWords$Sightings" "size" "I", Cond.fieldLink RX2 9 "BurstWords$Sightings" "places" "[I", Cond.fieldLink RX2 15 "BurstWords$Sightings" "letters" "[I", Cond.fieldLink RX2 18 "BurstWords$Sightings" "so" "[Z", Cond.methodLink RX2 26 yX3_letterAt, Cond.static yX3_letterAt, Cond.initialized RX3, Cond.code yX3_letterAt cX3_letterAt 3 (some .int), Cond.methodLink RX3 9 yX3_shiftOf, Cond.static yX3_shiftOf, Cond.code yX3_shiftOf cX3_shiftOf 1 (some .int)]
def wsX4_fit : List Cond := .code yX4_fit cX4_fit 4 (some .int) :: ((wsX4_fit_r1 ++ wsX4_fit_r2) ++ wsX40 ++ wsX00 ++ wsX20)
def wsJ7_fill_53178 : List Cond := .code yJ7_fill_53178 cJ7_fill_53178 4 none :: ([])
def wsX4_tallyLetters : List Cond := .code yX4_tallyLetters cX4_tallyLetters 5 none :: ([.fieldLink RX4 30 "BurstWords" "tally" "[I", .methodLink RX4 189 yX3_letterAt, .static yX3_letterAt, .initialized RX3, .code yX3_letterAt cX3_letterAt 3 (some .int), .methodLink RX3 9 yX3_shiftOf, .static yX3_shiftOf, .code yX3_shiftOf cX3_shiftOf 1 (some .int), .methodLink RX4 44 yX3_isLetter, .static yX3_isLetter, .code yX3_isLetter cX3_isLetter 1 (some .boolean)] ++ wsX40)
def wsX4_tallyFitting_r1 : List Cond := [Cond.fieldLink RX4 30 "BurstWords" "tally" "[I", Cond.fieldLink RX4 10 "BurstWords" "dictionary" "LBurstWords$Dictionary;", Cond.fieldLink RX4 26 "BurstWords" "sightings" "LBurstWords$Sightings;", Cond.methodLink RX4 198 yJ7_fill_53178, Cond.static yJ7_fill_53178, Cond.initialized RJ7, Cond.code yJ7_fill_53178 cJ7_fill_53178 4 none, Cond.methodLink RX4 56 yX0_size, Cond.instanceMethod yX0_size, Cond.selects RX0 yX0_size yX0_size, Cond.initialized RX0, Cond.code yX0_size cX0_size 1 (some .int), Cond.fieldLink RX0 22 "BurstWords$Dictionary" "size" "I", Cond.methodLink RX4 148 yX0_wordAt, Cond.instanceMethod yX0_wordAt, Cond.selects RX0 yX0_wordAt yX0_wordAt, Cond.code yX0_wordAt cX0_wordAt 2 (some .long), Cond.fieldLink RX0 9 "BurstWords$Dictionary" "words" "[J", Cond.methodLink RX0 26 yX0_has, Cond.instanceMethod yX0_has, Cond.selects RX0 yX0_has yX0_has, Cond.code yX0_has cX0_has 2 (some .boolean), Cond.methodLink RX4 152 yX2_allow, Cond.instanceMethod yX2_allow]
def wsX4_tallyFitting_r2 : List Cond := [Cond.selects RX2 yX2_allow yX2_allow, Cond.initialized RX2, Cond.code yX2_allow cX2_allow 5 (some .boolean), Cond.fieldLink RX2 22 "BurstWords$Sightings" "size" "I", Cond.fieldLink RX2 9 "BurstWords$Sightings" "places" "[I", Cond.fieldLink RX2 15 "BurstWords$Sightings" "letters" "[I", Cond.fieldLink RX2 18 "BurstWords$Sightings" "so" "[Z", Cond.methodLink RX2 26 yX3_letterAt, Cond.static yX3_letterAt, Cond.initialized RX3, Cond.code yX3_letterAt cX3_letterAt 3 (some .int), Cond.methodLink RX3 9 yX3_shiftOf, Cond.static yX3_shiftOf, Cond.code yX3_shiftOf cX3_shiftOf 1 (some .int), Cond.methodLink RX4 204 yX4_tallyLetters, Cond.instanceMethod yX4_tallyLetters, Cond.selects RX4 yX4_tallyLetters yX4_tallyLetters, Cond.initialized RX4, Cond.code yX4_tallyLetters cX4_tallyLetters 5 none, Cond.methodLink RX4 189 yX3_letterAt, Cond.methodLink RX4 44 yX3_isLetter, Cond.static yX3_isLetter, Cond.code yX3_isLetter cX3_isLetter 1 (some .boolean)]
def wsX4_tallyFitting : List Cond := .code yX4_tallyFitting cX4_tallyFitting 5 (some .int) :: ((wsX4_tallyFitting_r1 ++ wsX4_tallyFitting_r2) ++ wsX40 ++ wsX00 ++ wsX20)
def wsX4_ask_r1 : List Cond := [Cond.fieldLink RX4 30 "BurstWords" "tally" "[I", Cond.methodLink RX4 159 Lib.Math.max.name, Cond.static Lib.Math.max.name, Cond.initialized "java/lang/Math", Cond.code Lib.Math.max.name Lib.Math.max.code 2 (some .int), Cond.methodLink RX4 156 yX4_tallyFitting, Cond.instanceMethod yX4_tallyFitting, Cond.selects RX4 yX4_tallyFitting yX4_tallyFitting, Cond.initialized RX4, Cond.code yX4_tallyFitting cX4_tallyFitting 5 (some .int), Cond.fieldLink RX4 10 "BurstWords" "dictionary" "LBurstWords$Dictionary;", Cond.fieldLink RX4 26 "BurstWords" "sightings" "LBurstWords$Sightings;", Cond.methodLink RX4 198 yJ7_fill_53178, Cond.static yJ7_fill_53178, Cond.initialized RJ7, Cond.code yJ7_fill_53178 cJ7_fill_53178 4 none, Cond.methodLink RX4 56 yX0_size, Cond.instanceMethod yX0_size, Cond.selects RX0 yX0_size yX0_size, Cond.initialized RX0, Cond.code yX0_size cX0_size 1 (some .int), Cond.fieldLink RX0 22 "BurstWords$Dictionary" "size" "I", Cond.methodLink RX4 148 yX0_wordAt, Cond.instanceMethod yX0_wordAt]
def wsX4_ask_r2 : List Cond := [Cond.selects RX0 yX0_wordAt yX0_wordAt, Cond.code yX0_wordAt cX0_wordAt 2 (some .long), Cond.fieldLink RX0 9 "BurstWords$Dictionary" "words" "[J", Cond.methodLink RX0 26 yX0_has, Cond.instanceMethod yX0_has, Cond.selects RX0 yX0_has yX0_has, Cond.code yX0_has cX0_has 2 (some .boolean), Cond.methodLink RX4 152 yX2_allow, Cond.instanceMethod yX2_allow, Cond.selects RX2 yX2_allow yX2_allow, Cond.initialized RX2, Cond.code yX2_allow cX2_allow 5 (some .boolean), Cond.fieldLink RX2 22 "BurstWords$Sightings" "size" "I", Cond.fieldLink RX2 9 "BurstWords$Sightings" "places" "[I", Cond.fieldLink RX2 15 "BurstWords$Sightings" "letters" "[I", Cond.fieldLink RX2 18 "BurstWords$Sightings" "so" "[Z", Cond.methodLink RX2 26 yX3_letterAt, Cond.static yX3_letterAt, Cond.initialized RX3, Cond.code yX3_letterAt cX3_letterAt 3 (some .int), Cond.methodLink RX3 9 yX3_shiftOf, Cond.static yX3_shiftOf, Cond.code yX3_shiftOf cX3_shiftOf 1 (some .int), Cond.methodLink RX4 204 yX4_tallyLetters]
def wsX4_ask_r3 : List Cond := [Cond.instanceMethod yX4_tallyLetters, Cond.selects RX4 yX4_tallyLetters yX4_tallyLetters, Cond.code yX4_tallyLetters cX4_tallyLetters 5 none, Cond.methodLink RX4 189 yX3_letterAt, Cond.methodLink RX4 44 yX3_isLetter, Cond.static yX3_isLetter, Cond.code yX3_isLetter cX3_isLetter 1 (some .boolean)]
def wsX4_ask : List Cond := .code yX4_ask cX4_ask 6 (some .int) :: ((wsX4_ask_r1 ++ (wsX4_ask_r2 ++ wsX4_ask_r3)) ++ wsX40 ++ wsX00 ++ wsX20)
def wsX4_count_r1 : List Cond := [Cond.fieldLink RX4 10 "BurstWords" "dictionary" "LBurstWords$Dictionary;", Cond.fieldLink RX4 40 "BurstWords" "bound" "I", Cond.fieldLink RX4 36 "BurstWords" "word" "J", Cond.fieldLink RX4 19 "BurstWords" "history" "LBurstWords$History;", Cond.methodLink RX4 56 yX0_size, Cond.instanceMethod yX0_size, Cond.selects RX0 yX0_size yX0_size, Cond.initialized RX0, Cond.code yX0_size cX0_size 1 (some .int), Cond.fieldLink RX0 22 "BurstWords$Dictionary" "size" "I", Cond.methodLink RX4 104 yX0_oftenBelow, Cond.instanceMethod yX0_oftenBelow, Cond.selects RX0 yX0_oftenBelow yX0_oftenBelow, Cond.code yX0_oftenBelow cX0_oftenBelow 4 (some .int), Cond.methodLink RX0 40 yX0_oftenAt, Cond.instanceMethod yX0_oftenAt, Cond.selects RX0 yX0_oftenAt yX0_oftenAt, Cond.code yX0_oftenAt cX0_oftenAt 2 (some .int), Cond.fieldLink RX0 15 "BurstWords$Dictionary" "often" "[I", Cond.methodLink RX0 26 yX0_has, Cond.instanceMethod yX0_has, Cond.selects RX0 yX0_has yX0_has, Cond.code yX0_has cX0_has 2 (some .boolean), Cond.methodLink RX4 164 yX0_nodes]
def wsX4_count_r2 : List Cond := [Cond.instanceMethod yX0_nodes, Cond.selects RX0 yX0_nodes yX0_nodes, Cond.code yX0_nodes cX0_nodes 3 (some .int), Cond.methodLink RX0 74 Lib.Math.max.name, Cond.static Lib.Math.max.name, Cond.initialized "java/lang/Math", Cond.code Lib.Math.max.name Lib.Math.max.code 2 (some .int), Cond.methodLink RX0 65 yX0_depthAt, Cond.instanceMethod yX0_depthAt, Cond.selects RX0 yX0_depthAt yX0_depthAt, Cond.code yX0_depthAt cX0_depthAt 2 (some .int), Cond.fieldLink RX0 19 "BurstWords$Dictionary" "depths" "[I", Cond.methodLink RX0 94 yX0_sharedAhead, Cond.instanceMethod yX0_sharedAhead, Cond.selects RX0 yX0_sharedAhead yX0_sharedAhead, Cond.code yX0_sharedAhead cX0_sharedAhead 2 (some .int), Cond.methodLink RX0 32 yX0_wordAt, Cond.instanceMethod yX0_wordAt, Cond.selects RX0 yX0_wordAt yX0_wordAt, Cond.code yX0_wordAt cX0_wordAt 2 (some .long), Cond.fieldLink RX0 9 "BurstWords$Dictionary" "words" "[J", Cond.methodLink RX0 61 yX3_sharedBy, Cond.static yX3_sharedBy, Cond.initialized RX3]
def wsX4_count_r3 : List Cond := [Cond.code yX3_sharedBy cX3_sharedBy 5 (some .int), Cond.methodLink RX3 15 yX3_letterAt, Cond.static yX3_letterAt, Cond.code yX3_letterAt cX3_letterAt 3 (some .int), Cond.methodLink RX3 9 yX3_shiftOf, Cond.static yX3_shiftOf, Cond.code yX3_shiftOf cX3_shiftOf 1 (some .int), Cond.methodLink RX4 167 yX0_containers, Cond.instanceMethod yX0_containers, Cond.selects RX0 yX0_containers yX0_containers, Cond.code yX0_containers cX0_containers 3 (some .int), Cond.methodLink RX0 100 yX0_opensContainer, Cond.instanceMethod yX0_opensContainer, Cond.selects RX0 yX0_opensContainer yX0_opensContainer, Cond.code yX0_opensContainer cX0_opensContainer 2 (some .boolean), Cond.methodLink RX0 97 yX0_isContained, Cond.instanceMethod yX0_isContained, Cond.selects RX0 yX0_isContained yX0_isContained, Cond.code yX0_isContained cX0_isContained 2 (some .boolean), Cond.methodLink RX0 77 yX3_lengthOf, Cond.static yX3_lengthOf, Cond.code yX3_lengthOf cX3_lengthOf 3 (some .int), Cond.methodLink RX4 170 yX0_fullest, Cond.instanceMethod yX0_fullest]
def wsX4_count_r4 : List Cond := [Cond.selects RX0 yX0_fullest yX0_fullest, Cond.code yX0_fullest cX0_fullest 4 (some .int), Cond.methodLink RX4 173 yX0_deepest, Cond.instanceMethod yX0_deepest, Cond.selects RX0 yX0_deepest yX0_deepest, Cond.code yX0_deepest cX0_deepest 3 (some .int), Cond.methodLink RX4 176 yX0_lettersKept, Cond.instanceMethod yX0_lettersKept, Cond.selects RX0 yX0_lettersKept yX0_lettersKept, Cond.code yX0_lettersKept cX0_lettersKept 3 (some .int), Cond.methodLink RX4 179 yX0_mostShared, Cond.instanceMethod yX0_mostShared, Cond.selects RX0 yX0_mostShared yX0_mostShared, Cond.code yX0_mostShared cX0_mostShared 3 (some .int), Cond.methodLink RX4 182 yX0_pairsSharing, Cond.instanceMethod yX0_pairsSharing, Cond.selects RX0 yX0_pairsSharing yX0_pairsSharing, Cond.code yX0_pairsSharing cX0_pairsSharing 4 (some .int), Cond.methodLink RX4 48 yX3_lengthOf, Cond.methodLink RX4 87 yX1_size, Cond.instanceMethod yX1_size, Cond.selects RX1 yX1_size yX1_size, Cond.initialized RX1, Cond.code yX1_size cX1_size 1 (some .int)]
def wsX4_count_r5 : List Cond := [Cond.fieldLink RX1 22 "BurstWords$History" "size" "I"]
def wsX4_count : List Cond := .code yX4_count cX4_count 2 (some .int) :: ((wsX4_count_r1 ++ (wsX4_count_r2 ++ (wsX4_count_r3 ++ (wsX4_count_r4 ++ wsX4_count_r5)))) ++ wsX40 ++ wsX00 ++ wsX10)
def wsX4_digest_r1 : List Cond := [Cond.constantLong RX4 185 (17), Cond.fieldLink RX4 10 "BurstWords" "dictionary" "LBurstWords$Dictionary;", Cond.constantLong RX4 187 (31), Cond.methodLink RX4 56 yX0_size, Cond.instanceMethod yX0_size, Cond.selects RX0 yX0_size yX0_size, Cond.initialized RX0, Cond.code yX0_size cX0_size 1 (some .int), Cond.fieldLink RX0 22 "BurstWords$Dictionary" "size" "I", Cond.methodLink RX4 148 yX0_wordAt, Cond.instanceMethod yX0_wordAt, Cond.selects RX0 yX0_wordAt yX0_wordAt, Cond.code yX0_wordAt cX0_wordAt 2 (some .long), Cond.fieldLink RX0 9 "BurstWords$Dictionary" "words" "[J", Cond.methodLink RX0 26 yX0_has, Cond.instanceMethod yX0_has, Cond.selects RX0 yX0_has yX0_has, Cond.code yX0_has cX0_has 2 (some .boolean), Cond.methodLink RX4 48 yX3_lengthOf, Cond.static yX3_lengthOf, Cond.initialized RX3, Cond.code yX3_lengthOf cX3_lengthOf 3 (some .int), Cond.methodLink RX3 15 yX3_letterAt, Cond.static yX3_letterAt]
def wsX4_digest_r2 : List Cond := [Cond.code yX3_letterAt cX3_letterAt 3 (some .int), Cond.methodLink RX3 9 yX3_shiftOf, Cond.static yX3_shiftOf, Cond.code yX3_shiftOf cX3_shiftOf 1 (some .int), Cond.methodLink RX4 189 yX3_letterAt, Cond.methodLink RX4 192 yX0_oftenAt, Cond.instanceMethod yX0_oftenAt, Cond.selects RX0 yX0_oftenAt yX0_oftenAt, Cond.code yX0_oftenAt cX0_oftenAt 2 (some .int), Cond.fieldLink RX0 15 "BurstWords$Dictionary" "often" "[I", Cond.methodLink RX4 195 yX0_depthAt, Cond.instanceMethod yX0_depthAt, Cond.selects RX0 yX0_depthAt yX0_depthAt, Cond.code yX0_depthAt cX0_depthAt 2 (some .int), Cond.fieldLink RX0 19 "BurstWords$Dictionary" "depths" "[I"]
def wsX4_digest : List Cond := .code yX4_digest cX4_digest 8 (some .long) :: ((wsX4_digest_r1 ++ wsX4_digest_r2) ++ wsX40 ++ wsX00)
def wsX5_init : List Cond := .code yX5_init cX5_init 1 none :: ([.methodLink RX5 1 objectInit, .instanceMethod objectInit, .code objectInit ⟨#[0xb1]⟩ 1 none, .arrayClass .int, .fieldLink RX5 7 "BurstWordsModel" "typed" "[I", .fieldLink RX5 13 "BurstWordsModel" "b" "I", .arrayClass .long, .fieldLink RX5 17 "BurstWordsModel" "word" "[J", .fieldLink RX5 21 "BurstWordsModel" "often" "[I", .fieldLink RX5 24 "BurstWordsModel" "node" "[J", .fieldLink RX5 27 "BurstWordsModel" "undos" "[J", .fieldLink RX5 30 "BurstWordsModel" "seenAt" "[I", .fieldLink RX5 33 "BurstWordsModel" "seenLetter" "[I", .fieldLink RX5 36 "BurstWordsModel" "seenIs" "[I", .arrayClass .boolean, .fieldLink RX5 39 "BurstWordsModel" "taken" "[Z", .fieldLink RX5 43 "BurstWordsModel" "thrown" "I"] ++ wsX50)
def wsX5_in : List Cond := .code yX5_in cX5_in 3 (some .boolean) :: ([])
def wsX5_unit : List Cond := .code yX5_unit cX5_unit 4 (some .long) :: ([.constantLong RX5 46 (27)])
def wsX5_head : List Cond := .code yX5_head cX5_head 3 (some .long) :: ([.methodLink RX5 48 yX5_unit, .static yX5_unit, .initialized RX5, .code yX5_unit cX5_unit 4 (some .long), .constantLong RX5 46 (27)])
def wsX5_sign : List Cond := .code yX5_sign cX5_sign 3 (some .int) :: ([.constantLong RX5 46 (27), .methodLink RX5 48 yX5_unit, .static yX5_unit, .initialized RX5, .code yX5_unit cX5_unit 4 (some .long)])
def wsX5_size : List Cond := .code yX5_size cX5_size 3 (some .int) :: ([.methodLink RX5 52 yX5_sign, .static yX5_sign, .initialized RX5, .code yX5_sign cX5_sign 3 (some .int), .constantLong RX5 46 (27), .methodLink RX5 48 yX5_unit, .static yX5_unit, .code yX5_unit cX5_unit 4 (some .long)])
def wsX5_own : List Cond := .code yX5_own cX5_own 4 (some .long) :: ([.constantLong RX5 46 (27), .fieldLink RX5 56 "BurstWordsModel" "typedMany" "I", .fieldLink RX5 7 "BurstWordsModel" "typed" "[I"] ++ wsX50)
def wsX5_begins : List Cond := .code yX5_begins cX5_begins 4 (some .boolean) :: ([.methodLink RX5 59 yX5_size, .static yX5_size, .initialized RX5, .code yX5_size cX5_size 3 (some .int), .methodLink RX5 52 yX5_sign, .static yX5_sign, .code yX5_sign cX5_sign 3 (some .int), .constantLong RX5 46 (27), .methodLink RX5 48 yX5_unit, .static yX5_unit, .code yX5_unit cX5_unit 4 (some .long), .methodLink RX5 63 yX5_head, .static yX5_head, .code yX5_head cX5_head 3 (some .long)])
def wsX5_placeOf : List Cond := .code yX5_placeOf cX5_placeOf 5 (some .int) :: ([.fieldLink RX5 67 "BurstWordsModel" "many" "I", .fieldLink RX5 17 "BurstWordsModel" "word" "[J"] ++ wsX50)
def wsX5_beginning : List Cond := .code yX5_beginning cX5_beginning 5 (some .int) :: ([.fieldLink RX5 67 "BurstWordsModel" "many" "I", .fieldLink RX5 17 "BurstWordsModel" "word" "[J", .methodLink RX5 70 yX5_begins, .static yX5_begins, .initialized RX5, .code yX5_begins cX5_begins 4 (some .boolean), .methodLink RX5 59 yX5_size, .static yX5_size, .code yX5_size cX5_size 3 (some .int), .methodLink RX5 52 yX5_sign, .static yX5_sign, .code yX5_sign cX5_sign 3 (some .int), .constantLong RX5 46 (27), .methodLink RX5 48 yX5_unit, .static yX5_unit, .code yX5_unit cX5_unit 4 (some .long), .methodLink RX5 63 yX5_head, .static yX5_head, .code yX5_head cX5_head 3 (some .long)] ++ wsX50)
def wsX5_isNode : List Cond := .code yX5_isNode cX5_isNode 5 (some .boolean) :: ([.fieldLink RX5 74 "BurstWordsModel" "nodeMany" "I", .fieldLink RX5 24 "BurstWordsModel" "node" "[J"] ++ wsX50)
def wsX5_containerSize : List Cond := .code yX5_containerSize cX5_containerSize 4 (some .int) :: ([.methodLink RX5 59 yX5_size, .static yX5_size, .initialized RX5, .code yX5_size cX5_size 3 (some .int), .methodLink RX5 52 yX5_sign, .static yX5_sign, .code yX5_sign cX5_sign 3 (some .int), .constantLong RX5 46 (27), .methodLink RX5 48 yX5_unit, .static yX5_unit, .code yX5_unit cX5_unit 4 (some .long), .methodLink RX5 63 yX5_head, .static yX5_head, .code yX5_head cX5_head 3 (some .long), .methodLink RX5 77 yX5_isNode, .instanceMethod yX5_isNode, .selects RX5 yX5_isNode yX5_isNode, .code yX5_isNode cX5_isNode 5 (some .boolean), .fieldLink RX5 74 "BurstWordsModel" "nodeMany" "I", .fieldLink RX5 24 "BurstWordsModel" "node" "[J"] ++ wsX50)
def wsX5_depthOf : List Cond := .code yX5_depthOf cX5_depthOf 5 (some .int) :: ([.methodLink RX5 59 yX5_size, .static yX5_size, .initialized RX5, .code yX5_size cX5_size 3 (some .int), .methodLink RX5 52 yX5_sign, .static yX5_sign, .code yX5_sign cX5_sign 3 (some .int), .constantLong RX5 46 (27), .methodLink RX5 48 yX5_unit, .static yX5_unit, .code yX5_unit cX5_unit 4 (some .long), .methodLink RX5 63 yX5_head, .static yX5_head, .code yX5_head cX5_head 3 (some .long), .methodLink RX5 77 yX5_isNode, .instanceMethod yX5_isNode, .selects RX5 yX5_isNode yX5_isNode, .code yX5_isNode cX5_isNode 5 (some .boolean), .fieldLink RX5 74 "BurstWordsModel" "nodeMany" "I", .fieldLink RX5 24 "BurstWordsModel" "node" "[J"] ++ wsX50)
def wsX5_type : List Cond := .code yX5_type cX5_type 2 (some .int) :: ([.fieldLink RX5 43 "BurstWordsModel" "thrown" "I", .fieldLink RX5 56 "BurstWordsModel" "typedMany" "I", .fieldLink RX5 7 "BurstWordsModel" "typed" "[I", .methodLink RX5 81 yX5_in, .static yX5_in, .initialized RX5, .code yX5_in cX5_in 3 (some .boolean)] ++ wsX50)
def wsX5_clear : List Cond := .code yX5_clear cX5_clear 2 (some .int) :: ([.fieldLink RX5 43 "BurstWordsModel" "thrown" "I", .fieldLink RX5 56 "BurstWordsModel" "typedMany" "I"] ++ wsX50)
def wsX5_bounds : List Cond := .code yX5_bounds cX5_bounds 3 (some .int) :: ([.fieldLink RX5 43 "BurstWordsModel" "thrown" "I", .fieldLink RX5 67 "BurstWordsModel" "many" "I", .fieldLink RX5 13 "BurstWordsModel" "b" "I", .fieldLink RX5 85 "BurstWordsModel" "undoMany" "I", .methodLink RX5 81 yX5_in, .static yX5_in, .initialized RX5, .code yX5_in cX5_in 3 (some .boolean)] ++ wsX50)
def wsX5_notes : List Cond := .code yX5_notes cX5_notes 3 none :: ([.fieldLink RX5 85 "BurstWordsModel" "undoMany" "I", .fieldLink RX5 27 "BurstWordsModel" "undos" "[J", .fieldLink RX5 67 "BurstWordsModel" "many" "I", .fieldLink RX5 74 "BurstWordsModel" "nodeMany" "I", .fieldLink RX5 17 "BurstWordsModel" "word" "[J", .fieldLink RX5 21 "BurstWordsModel" "often" "[I", .fieldLink RX5 24 "BurstWordsModel" "node" "[J"] ++ wsX50)
def wsX5_bursts_r1 : List Cond := [Cond.fieldLink RX5 13 "BurstWordsModel" "b" "I", Cond.fieldLink RX5 24 "BurstWordsModel" "node" "[J", Cond.fieldLink RX5 74 "BurstWordsModel" "nodeMany" "I", Cond.methodLink RX5 88 yX5_containerSize, Cond.instanceMethod yX5_containerSize, Cond.selects RX5 yX5_containerSize yX5_containerSize, Cond.initialized RX5, Cond.code yX5_containerSize cX5_containerSize 4 (some .int), Cond.methodLink RX5 59 yX5_size, Cond.static yX5_size, Cond.code yX5_size cX5_size 3 (some .int), Cond.methodLink RX5 52 yX5_sign, Cond.static yX5_sign, Cond.code yX5_sign cX5_sign 3 (some .int), Cond.constantLong RX5 46 (27), Cond.methodLink RX5 48 yX5_unit, Cond.static yX5_unit, Cond.code yX5_unit cX5_unit 4 (some .long), Cond.methodLink RX5 63 yX5_head, Cond.static yX5_head, Cond.code yX5_head cX5_head 3 (some .long), Cond.methodLink RX5 77 yX5_isNode, Cond.instanceMethod yX5_isNode, Cond.selects RX5 yX5_isNode yX5_isNode]
def wsX5_bursts_r2 : List Cond := [Cond.code yX5_isNode cX5_isNode 5 (some .boolean), Cond.methodLink RX5 91 yX5_beginning, Cond.instanceMethod yX5_beginning, Cond.selects RX5 yX5_beginning yX5_beginning, Cond.code yX5_beginning cX5_beginning 5 (some .int), Cond.fieldLink RX5 67 "BurstWordsModel" "many" "I", Cond.fieldLink RX5 17 "BurstWordsModel" "word" "[J", Cond.methodLink RX5 70 yX5_begins, Cond.static yX5_begins, Cond.code yX5_begins cX5_begins 4 (some .boolean)]
def wsX5_bursts : List Cond := .code yX5_bursts cX5_bursts 4 none :: ((wsX5_bursts_r1 ++ wsX5_bursts_r2) ++ wsX50)
def wsX5_adds_r1 : List Cond := [Cond.fieldLink RX5 43 "BurstWordsModel" "thrown" "I", Cond.fieldLink RX5 56 "BurstWordsModel" "typedMany" "I", Cond.fieldLink RX5 67 "BurstWordsModel" "many" "I", Cond.fieldLink RX5 21 "BurstWordsModel" "often" "[I", Cond.fieldLink RX5 17 "BurstWordsModel" "word" "[J", Cond.methodLink RX5 94 yX5_own, Cond.instanceMethod yX5_own, Cond.selects RX5 yX5_own yX5_own, Cond.initialized RX5, Cond.code yX5_own cX5_own 4 (some .long), Cond.constantLong RX5 46 (27), Cond.fieldLink RX5 7 "BurstWordsModel" "typed" "[I", Cond.methodLink RX5 98 yX5_placeOf, Cond.instanceMethod yX5_placeOf, Cond.selects RX5 yX5_placeOf yX5_placeOf, Cond.code yX5_placeOf cX5_placeOf 5 (some .int), Cond.methodLink RX5 101 yX5_notes, Cond.instanceMethod yX5_notes, Cond.selects RX5 yX5_notes yX5_notes, Cond.code yX5_notes cX5_notes 3 none, Cond.fieldLink RX5 85 "BurstWordsModel" "undoMany" "I", Cond.fieldLink RX5 27 "BurstWordsModel" "undos" "[J", Cond.fieldLink RX5 74 "BurstWordsModel" "nodeMany" "I", Cond.fieldLink RX5 24 "BurstWordsModel" "node" "[J"]
def wsX5_adds_r2 : List Cond := [Cond.methodLink RX5 104 yX5_bursts, Cond.instanceMethod yX5_bursts, Cond.selects RX5 yX5_bursts yX5_bursts, Cond.code yX5_bursts cX5_bursts 4 none, Cond.fieldLink RX5 13 "BurstWordsModel" "b" "I", Cond.methodLink RX5 88 yX5_containerSize, Cond.instanceMethod yX5_containerSize, Cond.selects RX5 yX5_containerSize yX5_containerSize, Cond.code yX5_containerSize cX5_containerSize 4 (some .int), Cond.methodLink RX5 59 yX5_size, Cond.static yX5_size, Cond.code yX5_size cX5_size 3 (some .int), Cond.methodLink RX5 52 yX5_sign, Cond.static yX5_sign, Cond.code yX5_sign cX5_sign 3 (some .int), Cond.methodLink RX5 48 yX5_unit, Cond.static yX5_unit, Cond.code yX5_unit cX5_unit 4 (some .long), Cond.methodLink RX5 63 yX5_head, Cond.static yX5_head, Cond.code yX5_head cX5_head 3 (some .long), Cond.methodLink RX5 77 yX5_isNode, Cond.instanceMethod yX5_isNode, Cond.selects RX5 yX5_isNode yX5_isNode]
def wsX5_adds_r3 : List Cond := [Cond.code yX5_isNode cX5_isNode 5 (some .boolean), Cond.methodLink RX5 91 yX5_beginning, Cond.instanceMethod yX5_beginning, Cond.selects RX5 yX5_beginning yX5_beginning, Cond.code yX5_beginning cX5_beginning 5 (some .int), Cond.methodLink RX5 70 yX5_begins, Cond.static yX5_begins, Cond.code yX5_begins cX5_begins 4 (some .boolean)]
def wsX5_adds : List Cond := .code yX5_adds cX5_adds 5 (some .int) :: ((wsX5_adds_r1 ++ (wsX5_adds_r2 ++ wsX5_adds_r3)) ++ wsX50)
def wsX5_leaves : List Cond := .code yX5_leaves cX5_leaves 5 none :: ([.fieldLink RX5 24 "BurstWordsModel" "node" "[J", .fieldLink RX5 74 "BurstWordsModel" "nodeMany" "I"] ++ wsX50)
def wsX5_shrinks_r1 : List Cond := [Cond.fieldLink RX5 13 "BurstWordsModel" "b" "I", Cond.methodLink RX5 59 yX5_size, Cond.static yX5_size, Cond.initialized RX5, Cond.code yX5_size cX5_size 3 (some .int), Cond.methodLink RX5 52 yX5_sign, Cond.static yX5_sign, Cond.code yX5_sign cX5_sign 3 (some .int), Cond.constantLong RX5 46 (27), Cond.methodLink RX5 48 yX5_unit, Cond.static yX5_unit, Cond.code yX5_unit cX5_unit 4 (some .long), Cond.methodLink RX5 63 yX5_head, Cond.static yX5_head, Cond.code yX5_head cX5_head 3 (some .long), Cond.methodLink RX5 77 yX5_isNode, Cond.instanceMethod yX5_isNode, Cond.selects RX5 yX5_isNode yX5_isNode, Cond.code yX5_isNode cX5_isNode 5 (some .boolean), Cond.fieldLink RX5 74 "BurstWordsModel" "nodeMany" "I", Cond.fieldLink RX5 24 "BurstWordsModel" "node" "[J", Cond.methodLink RX5 91 yX5_beginning, Cond.instanceMethod yX5_beginning, Cond.selects RX5 yX5_beginning yX5_beginning]
def wsX5_shrinks_r2 : List Cond := [Cond.code yX5_beginning cX5_beginning 5 (some .int), Cond.fieldLink RX5 67 "BurstWordsModel" "many" "I", Cond.fieldLink RX5 17 "BurstWordsModel" "word" "[J", Cond.methodLink RX5 70 yX5_begins, Cond.static yX5_begins, Cond.code yX5_begins cX5_begins 4 (some .boolean), Cond.methodLink RX5 108 yX5_leaves, Cond.instanceMethod yX5_leaves, Cond.selects RX5 yX5_leaves yX5_leaves, Cond.code yX5_leaves cX5_leaves 5 none]
def wsX5_shrinks : List Cond := .code yX5_shrinks cX5_shrinks 7 none :: ((wsX5_shrinks_r1 ++ wsX5_shrinks_r2) ++ wsX50)
def wsX5_takes_r1 : List Cond := [Cond.fieldLink RX5 43 "BurstWordsModel" "thrown" "I", Cond.fieldLink RX5 21 "BurstWordsModel" "often" "[I", Cond.fieldLink RX5 67 "BurstWordsModel" "many" "I", Cond.fieldLink RX5 17 "BurstWordsModel" "word" "[J", Cond.methodLink RX5 94 yX5_own, Cond.instanceMethod yX5_own, Cond.selects RX5 yX5_own yX5_own, Cond.initialized RX5, Cond.code yX5_own cX5_own 4 (some .long), Cond.constantLong RX5 46 (27), Cond.fieldLink RX5 56 "BurstWordsModel" "typedMany" "I", Cond.fieldLink RX5 7 "BurstWordsModel" "typed" "[I", Cond.methodLink RX5 98 yX5_placeOf, Cond.instanceMethod yX5_placeOf, Cond.selects RX5 yX5_placeOf yX5_placeOf, Cond.code yX5_placeOf cX5_placeOf 5 (some .int), Cond.methodLink RX5 101 yX5_notes, Cond.instanceMethod yX5_notes, Cond.selects RX5 yX5_notes yX5_notes, Cond.code yX5_notes cX5_notes 3 none, Cond.fieldLink RX5 85 "BurstWordsModel" "undoMany" "I", Cond.fieldLink RX5 27 "BurstWordsModel" "undos" "[J", Cond.fieldLink RX5 74 "BurstWordsModel" "nodeMany" "I", Cond.fieldLink RX5 24 "BurstWordsModel" "node" "[J"]
def wsX5_takes_r2 : List Cond := [Cond.methodLink RX5 111 yX5_shrinks, Cond.instanceMethod yX5_shrinks, Cond.selects RX5 yX5_shrinks yX5_shrinks, Cond.code yX5_shrinks cX5_shrinks 7 none, Cond.fieldLink RX5 13 "BurstWordsModel" "b" "I", Cond.methodLink RX5 59 yX5_size, Cond.static yX5_size, Cond.code yX5_size cX5_size 3 (some .int), Cond.methodLink RX5 52 yX5_sign, Cond.static yX5_sign, Cond.code yX5_sign cX5_sign 3 (some .int), Cond.methodLink RX5 48 yX5_unit, Cond.static yX5_unit, Cond.code yX5_unit cX5_unit 4 (some .long), Cond.methodLink RX5 63 yX5_head, Cond.static yX5_head, Cond.code yX5_head cX5_head 3 (some .long), Cond.methodLink RX5 77 yX5_isNode, Cond.instanceMethod yX5_isNode, Cond.selects RX5 yX5_isNode yX5_isNode, Cond.code yX5_isNode cX5_isNode 5 (some .boolean), Cond.methodLink RX5 91 yX5_beginning, Cond.instanceMethod yX5_beginning, Cond.selects RX5 yX5_beginning yX5_beginning]
def wsX5_takes_r3 : List Cond := [Cond.code yX5_beginning cX5_beginning 5 (some .int), Cond.methodLink RX5 70 yX5_begins, Cond.static yX5_begins, Cond.code yX5_begins cX5_begins 4 (some .boolean), Cond.methodLink RX5 108 yX5_leaves, Cond.instanceMethod yX5_leaves, Cond.selects RX5 yX5_leaves yX5_leaves, Cond.code yX5_leaves cX5_leaves 5 none]
def wsX5_takes : List Cond := .code yX5_takes cX5_takes 6 (some .int) :: ((wsX5_takes_r1 ++ (wsX5_takes_r2 ++ wsX5_takes_r3)) ++ wsX50)
def wsX5_undo : List Cond := .code yX5_undo cX5_undo 3 (some .int) :: ([.fieldLink RX5 43 "BurstWordsModel" "thrown" "I", .fieldLink RX5 85 "BurstWordsModel" "undoMany" "I", .fieldLink RX5 27 "BurstWordsModel" "undos" "[J", .fieldLink RX5 67 "BurstWordsModel" "many" "I", .fieldLink RX5 74 "BurstWordsModel" "nodeMany" "I", .fieldLink RX5 17 "BurstWordsModel" "word" "[J", .fieldLink RX5 21 "BurstWordsModel" "often" "[I", .fieldLink RX5 24 "BurstWordsModel" "node" "[J"] ++ wsX50)
def wsX5_times : List Cond := .code yX5_times cX5_times 2 (some .int) :: ([.fieldLink RX5 43 "BurstWordsModel" "thrown" "I", .fieldLink RX5 21 "BurstWordsModel" "often" "[I", .methodLink RX5 94 yX5_own, .instanceMethod yX5_own, .selects RX5 yX5_own yX5_own, .initialized RX5, .code yX5_own cX5_own 4 (some .long), .constantLong RX5 46 (27), .fieldLink RX5 56 "BurstWordsModel" "typedMany" "I", .fieldLink RX5 7 "BurstWordsModel" "typed" "[I", .methodLink RX5 98 yX5_placeOf, .instanceMethod yX5_placeOf, .selects RX5 yX5_placeOf yX5_placeOf, .code yX5_placeOf cX5_placeOf 5 (some .int), .fieldLink RX5 67 "BurstWordsModel" "many" "I", .fieldLink RX5 17 "BurstWordsModel" "word" "[J"] ++ wsX50)
def wsX5_rank : List Cond := .code yX5_rank cX5_rank 5 (some .int) :: ([.fieldLink RX5 43 "BurstWordsModel" "thrown" "I", .fieldLink RX5 67 "BurstWordsModel" "many" "I", .fieldLink RX5 17 "BurstWordsModel" "word" "[J", .fieldLink RX5 21 "BurstWordsModel" "often" "[I", .methodLink RX5 94 yX5_own, .instanceMethod yX5_own, .selects RX5 yX5_own yX5_own, .initialized RX5, .code yX5_own cX5_own 4 (some .long), .constantLong RX5 46 (27), .fieldLink RX5 56 "BurstWordsModel" "typedMany" "I", .fieldLink RX5 7 "BurstWordsModel" "typed" "[I"] ++ wsX50)
def wsX5_beginOf : List Cond := .code yX5_beginOf cX5_beginOf 5 (some .int) :: ([.fieldLink RX5 67 "BurstWordsModel" "many" "I", .fieldLink RX5 17 "BurstWordsModel" "word" "[J", .fieldLink RX5 21 "BurstWordsModel" "often" "[I", .methodLink RX5 70 yX5_begins, .static yX5_begins, .initialized RX5, .code yX5_begins cX5_begins 4 (some .boolean), .methodLink RX5 59 yX5_size, .static yX5_size, .code yX5_size cX5_size 3 (some .int), .methodLink RX5 52 yX5_sign, .static yX5_sign, .code yX5_sign cX5_sign 3 (some .int), .constantLong RX5 46 (27), .methodLink RX5 48 yX5_unit, .static yX5_unit, .code yX5_unit cX5_unit 4 (some .long), .methodLink RX5 63 yX5_head, .static yX5_head, .code yX5_head cX5_head 3 (some .long)] ++ wsX50)
def wsX5_begin_r1 : List Cond := [Cond.fieldLink RX5 43 "BurstWordsModel" "thrown" "I", Cond.methodLink RX5 94 yX5_own, Cond.instanceMethod yX5_own, Cond.selects RX5 yX5_own yX5_own, Cond.initialized RX5, Cond.code yX5_own cX5_own 4 (some .long), Cond.constantLong RX5 46 (27), Cond.fieldLink RX5 56 "BurstWordsModel" "typedMany" "I", Cond.fieldLink RX5 7 "BurstWordsModel" "typed" "[I", Cond.methodLink RX5 114 yX5_beginOf, Cond.instanceMethod yX5_beginOf, Cond.selects RX5 yX5_beginOf yX5_beginOf, Cond.code yX5_beginOf cX5_beginOf 5 (some .int), Cond.fieldLink RX5 67 "BurstWordsModel" "many" "I", Cond.fieldLink RX5 17 "BurstWordsModel" "word" "[J", Cond.fieldLink RX5 21 "BurstWordsModel" "often" "[I", Cond.methodLink RX5 70 yX5_begins, Cond.static yX5_begins, Cond.code yX5_begins cX5_begins 4 (some .boolean), Cond.methodLink RX5 59 yX5_size, Cond.static yX5_size, Cond.code yX5_size cX5_size 3 (some .int), Cond.methodLink RX5 52 yX5_sign, Cond.static yX5_sign]
def wsX5_begin_r2 : List Cond := [Cond.code yX5_sign cX5_sign 3 (some .int), Cond.methodLink RX5 48 yX5_unit, Cond.static yX5_unit, Cond.code yX5_unit cX5_unit 4 (some .long), Cond.methodLink RX5 63 yX5_head, Cond.static yX5_head, Cond.code yX5_head cX5_head 3 (some .long)]
def wsX5_begin : List Cond := .code yX5_begin cX5_begin 1 (some .int) :: ((wsX5_begin_r1 ++ wsX5_begin_r2) ++ wsX50)
def wsX5_depth_r1 : List Cond := [Cond.fieldLink RX5 43 "BurstWordsModel" "thrown" "I", Cond.methodLink RX5 94 yX5_own, Cond.instanceMethod yX5_own, Cond.selects RX5 yX5_own yX5_own, Cond.initialized RX5, Cond.code yX5_own cX5_own 4 (some .long), Cond.constantLong RX5 46 (27), Cond.fieldLink RX5 56 "BurstWordsModel" "typedMany" "I", Cond.fieldLink RX5 7 "BurstWordsModel" "typed" "[I", Cond.methodLink RX5 117 yX5_depthOf, Cond.instanceMethod yX5_depthOf, Cond.selects RX5 yX5_depthOf yX5_depthOf, Cond.code yX5_depthOf cX5_depthOf 5 (some .int), Cond.methodLink RX5 59 yX5_size, Cond.static yX5_size, Cond.code yX5_size cX5_size 3 (some .int), Cond.methodLink RX5 52 yX5_sign, Cond.static yX5_sign, Cond.code yX5_sign cX5_sign 3 (some .int), Cond.methodLink RX5 48 yX5_unit, Cond.static yX5_unit, Cond.code yX5_unit cX5_unit 4 (some .long), Cond.methodLink RX5 63 yX5_head, Cond.static yX5_head]
def wsX5_depth_r2 : List Cond := [Cond.code yX5_head cX5_head 3 (some .long), Cond.methodLink RX5 77 yX5_isNode, Cond.instanceMethod yX5_isNode, Cond.selects RX5 yX5_isNode yX5_isNode, Cond.code yX5_isNode cX5_isNode 5 (some .boolean), Cond.fieldLink RX5 74 "BurstWordsModel" "nodeMany" "I", Cond.fieldLink RX5 24 "BurstWordsModel" "node" "[J"]
def wsX5_depth : List Cond := .code yX5_depth cX5_depth 1 (some .int) :: ((wsX5_depth_r1 ++ wsX5_depth_r2) ++ wsX50)
def wsX5_container_r1 : List Cond := [Cond.fieldLink RX5 43 "BurstWordsModel" "thrown" "I", Cond.methodLink RX5 81 yX5_in, Cond.static yX5_in, Cond.initialized RX5, Cond.code yX5_in cX5_in 3 (some .boolean), Cond.methodLink RX5 94 yX5_own, Cond.instanceMethod yX5_own, Cond.selects RX5 yX5_own yX5_own, Cond.code yX5_own cX5_own 4 (some .long), Cond.constantLong RX5 46 (27), Cond.fieldLink RX5 56 "BurstWordsModel" "typedMany" "I", Cond.fieldLink RX5 7 "BurstWordsModel" "typed" "[I", Cond.methodLink RX5 88 yX5_containerSize, Cond.instanceMethod yX5_containerSize, Cond.selects RX5 yX5_containerSize yX5_containerSize, Cond.code yX5_containerSize cX5_containerSize 4 (some .int), Cond.methodLink RX5 59 yX5_size, Cond.static yX5_size, Cond.code yX5_size cX5_size 3 (some .int), Cond.methodLink RX5 52 yX5_sign, Cond.static yX5_sign, Cond.code yX5_sign cX5_sign 3 (some .int), Cond.methodLink RX5 48 yX5_unit, Cond.static yX5_unit]
def wsX5_container_r2 : List Cond := [Cond.code yX5_unit cX5_unit 4 (some .long), Cond.methodLink RX5 63 yX5_head, Cond.static yX5_head, Cond.code yX5_head cX5_head 3 (some .long), Cond.methodLink RX5 77 yX5_isNode, Cond.instanceMethod yX5_isNode, Cond.selects RX5 yX5_isNode yX5_isNode, Cond.code yX5_isNode cX5_isNode 5 (some .boolean), Cond.fieldLink RX5 74 "BurstWordsModel" "nodeMany" "I", Cond.fieldLink RX5 24 "BurstWordsModel" "node" "[J", Cond.methodLink RX5 91 yX5_beginning, Cond.instanceMethod yX5_beginning, Cond.selects RX5 yX5_beginning yX5_beginning, Cond.code yX5_beginning cX5_beginning 5 (some .int), Cond.fieldLink RX5 67 "BurstWordsModel" "many" "I", Cond.fieldLink RX5 17 "BurstWordsModel" "word" "[J", Cond.methodLink RX5 70 yX5_begins, Cond.static yX5_begins, Cond.code yX5_begins cX5_begins 4 (some .boolean)]
def wsX5_container : List Cond := .code yX5_container cX5_container 4 (some .int) :: ((wsX5_container_r1 ++ wsX5_container_r2) ++ wsX50)
def wsX5_telling_r1 : List Cond := [Cond.fieldLink RX5 43 "BurstWordsModel" "thrown" "I", Cond.fieldLink RX5 56 "BurstWordsModel" "typedMany" "I", Cond.methodLink RX5 94 yX5_own, Cond.instanceMethod yX5_own, Cond.selects RX5 yX5_own yX5_own, Cond.initialized RX5, Cond.code yX5_own cX5_own 4 (some .long), Cond.constantLong RX5 46 (27), Cond.fieldLink RX5 7 "BurstWordsModel" "typed" "[I", Cond.methodLink RX5 98 yX5_placeOf, Cond.instanceMethod yX5_placeOf, Cond.selects RX5 yX5_placeOf yX5_placeOf, Cond.code yX5_placeOf cX5_placeOf 5 (some .int), Cond.fieldLink RX5 67 "BurstWordsModel" "many" "I", Cond.fieldLink RX5 17 "BurstWordsModel" "word" "[J", Cond.methodLink RX5 63 yX5_head, Cond.static yX5_head, Cond.code yX5_head cX5_head 3 (some .long), Cond.methodLink RX5 48 yX5_unit, Cond.static yX5_unit, Cond.code yX5_unit cX5_unit 4 (some .long), Cond.methodLink RX5 91 yX5_beginning, Cond.instanceMethod yX5_beginning, Cond.selects RX5 yX5_beginning yX5_beginning]
def wsX5_telling_r2 : List Cond := [Cond.code yX5_beginning cX5_beginning 5 (some .int), Cond.methodLink RX5 70 yX5_begins, Cond.static yX5_begins, Cond.code yX5_begins cX5_begins 4 (some .boolean), Cond.methodLink RX5 59 yX5_size, Cond.static yX5_size, Cond.code yX5_size cX5_size 3 (some .int), Cond.methodLink RX5 52 yX5_sign, Cond.static yX5_sign, Cond.code yX5_sign cX5_sign 3 (some .int)]
def wsX5_telling : List Cond := .code yX5_telling cX5_telling 4 (some .int) :: ((wsX5_telling_r1 ++ wsX5_telling_r2) ++ wsX50)
def wsX5_longest_r1 : List Cond := [Cond.fieldLink RX5 43 "BurstWordsModel" "thrown" "I", Cond.fieldLink RX5 67 "BurstWordsModel" "many" "I", Cond.fieldLink RX5 17 "BurstWordsModel" "word" "[J", Cond.methodLink RX5 94 yX5_own, Cond.instanceMethod yX5_own, Cond.selects RX5 yX5_own yX5_own, Cond.initialized RX5, Cond.code yX5_own cX5_own 4 (some .long), Cond.constantLong RX5 46 (27), Cond.fieldLink RX5 56 "BurstWordsModel" "typedMany" "I", Cond.fieldLink RX5 7 "BurstWordsModel" "typed" "[I", Cond.methodLink RX5 70 yX5_begins, Cond.static yX5_begins, Cond.code yX5_begins cX5_begins 4 (some .boolean), Cond.methodLink RX5 59 yX5_size, Cond.static yX5_size, Cond.code yX5_size cX5_size 3 (some .int), Cond.methodLink RX5 52 yX5_sign, Cond.static yX5_sign, Cond.code yX5_sign cX5_sign 3 (some .int), Cond.methodLink RX5 48 yX5_unit, Cond.static yX5_unit, Cond.code yX5_unit cX5_unit 4 (some .long), Cond.methodLink RX5 63 yX5_head]
def wsX5_longest_r2 : List Cond := [Cond.static yX5_head, Cond.code yX5_head cX5_head 3 (some .long)]
def wsX5_longest : List Cond := .code yX5_longest cX5_longest 3 (some .int) :: ((wsX5_longest_r1 ++ wsX5_longest_r2) ++ wsX50)
def wsX5_like : List Cond := .code yX5_like cX5_like 6 (some .int) :: ([.fieldLink RX5 43 "BurstWordsModel" "thrown" "I", .fieldLink RX5 67 "BurstWordsModel" "many" "I", .fieldLink RX5 56 "BurstWordsModel" "typedMany" "I", .fieldLink RX5 17 "BurstWordsModel" "word" "[J", .fieldLink RX5 7 "BurstWordsModel" "typed" "[I", .methodLink RX5 81 yX5_in, .static yX5_in, .initialized RX5, .code yX5_in cX5_in 3 (some .boolean), .methodLink RX5 52 yX5_sign, .static yX5_sign, .code yX5_sign cX5_sign 3 (some .int), .constantLong RX5 46 (27), .methodLink RX5 48 yX5_unit, .static yX5_unit, .code yX5_unit cX5_unit 4 (some .long), .methodLink RX5 59 yX5_size, .static yX5_size, .code yX5_size cX5_size 3 (some .int)] ++ wsX50)
def wsX5_gcd : List Cond := .code yX5_gcd cX5_gcd 5 (some .int) :: ([])
def wsX5_all : List Cond := .code yX5_all cX5_all 3 (some .int) :: ([.fieldLink RX5 67 "BurstWordsModel" "many" "I", .fieldLink RX5 21 "BurstWordsModel" "often" "[I"] ++ wsX50)
def wsX5_odds_r1 : List Cond := [Cond.fieldLink RX5 43 "BurstWordsModel" "thrown" "I", Cond.methodLink RX5 81 yX5_in, Cond.static yX5_in, Cond.initialized RX5, Cond.code yX5_in cX5_in 3 (some .boolean), Cond.methodLink RX5 120 yX5_all, Cond.instanceMethod yX5_all, Cond.selects RX5 yX5_all yX5_all, Cond.code yX5_all cX5_all 3 (some .int), Cond.fieldLink RX5 67 "BurstWordsModel" "many" "I", Cond.fieldLink RX5 21 "BurstWordsModel" "often" "[I", Cond.methodLink RX5 94 yX5_own, Cond.instanceMethod yX5_own, Cond.selects RX5 yX5_own yX5_own, Cond.code yX5_own cX5_own 4 (some .long), Cond.constantLong RX5 46 (27), Cond.fieldLink RX5 56 "BurstWordsModel" "typedMany" "I", Cond.fieldLink RX5 7 "BurstWordsModel" "typed" "[I", Cond.methodLink RX5 114 yX5_beginOf, Cond.instanceMethod yX5_beginOf, Cond.selects RX5 yX5_beginOf yX5_beginOf, Cond.code yX5_beginOf cX5_beginOf 5 (some .int), Cond.fieldLink RX5 17 "BurstWordsModel" "word" "[J", Cond.methodLink RX5 70 yX5_begins]
def wsX5_odds_r2 : List Cond := [Cond.static yX5_begins, Cond.code yX5_begins cX5_begins 4 (some .boolean), Cond.methodLink RX5 59 yX5_size, Cond.static yX5_size, Cond.code yX5_size cX5_size 3 (some .int), Cond.methodLink RX5 52 yX5_sign, Cond.static yX5_sign, Cond.code yX5_sign cX5_sign 3 (some .int), Cond.methodLink RX5 48 yX5_unit, Cond.static yX5_unit, Cond.code yX5_unit cX5_unit 4 (some .long), Cond.methodLink RX5 63 yX5_head, Cond.static yX5_head, Cond.code yX5_head cX5_head 3 (some .long), Cond.methodLink RX5 124 yX5_gcd, Cond.static yX5_gcd, Cond.code yX5_gcd cX5_gcd 5 (some .int)]
def wsX5_odds : List Cond := .code yX5_odds cX5_odds 5 (some .int) :: ((wsX5_odds_r1 ++ wsX5_odds_r2) ++ wsX50)
def wsX5_tells : List Cond := .code yX5_tells cX5_tells 3 (some .int) :: ([.fieldLink RX5 67 "BurstWordsModel" "many" "I", .fieldLink RX5 17 "BurstWordsModel" "word" "[J", .methodLink RX5 81 yX5_in, .static yX5_in, .initialized RX5, .code yX5_in cX5_in 3 (some .boolean), .methodLink RX5 59 yX5_size, .static yX5_size, .code yX5_size cX5_size 3 (some .int), .methodLink RX5 52 yX5_sign, .static yX5_sign, .code yX5_sign cX5_sign 3 (some .int), .constantLong RX5 46 (27), .methodLink RX5 48 yX5_unit, .static yX5_unit, .code yX5_unit cX5_unit 4 (some .long)] ++ wsX50)
def wsX5_isAt : List Cond := .code yX5_isAt cX5_isAt 1 (some .boolean) :: ([.methodLink RX5 81 yX5_in, .static yX5_in, .initialized RX5, .code yX5_in cX5_in 3 (some .boolean)])
def wsX5_kth_r1 : List Cond := [Cond.fieldLink RX5 43 "BurstWordsModel" "thrown" "I", Cond.fieldLink RX5 67 "BurstWordsModel" "many" "I", Cond.fieldLink RX5 21 "BurstWordsModel" "often" "[I", Cond.methodLink RX5 128 yX5_isAt, Cond.static yX5_isAt, Cond.initialized RX5, Cond.code yX5_isAt cX5_isAt 1 (some .boolean), Cond.methodLink RX5 81 yX5_in, Cond.static yX5_in, Cond.code yX5_in cX5_in 3 (some .boolean), Cond.methodLink RX5 132 yX5_tells, Cond.instanceMethod yX5_tells, Cond.selects RX5 yX5_tells yX5_tells, Cond.code yX5_tells cX5_tells 3 (some .int), Cond.fieldLink RX5 17 "BurstWordsModel" "word" "[J", Cond.methodLink RX5 59 yX5_size, Cond.static yX5_size, Cond.code yX5_size cX5_size 3 (some .int), Cond.methodLink RX5 52 yX5_sign, Cond.static yX5_sign, Cond.code yX5_sign cX5_sign 3 (some .int), Cond.constantLong RX5 46 (27), Cond.methodLink RX5 48 yX5_unit, Cond.static yX5_unit]
def wsX5_kth_r2 : List Cond := [Cond.code yX5_unit cX5_unit 4 (some .long)]
def wsX5_kth : List Cond := .code yX5_kth cX5_kth 5 (some .int) :: ((wsX5_kth_r1 ++ wsX5_kth_r2) ++ wsX50)
def wsX5_unlike : List Cond := .code yX5_unlike cX5_unlike 3 (some .int) :: ([.fieldLink RX5 43 "BurstWordsModel" "thrown" "I", .methodLink RX5 128 yX5_isAt, .static yX5_isAt, .initialized RX5, .code yX5_isAt cX5_isAt 1 (some .boolean), .methodLink RX5 81 yX5_in, .static yX5_in, .code yX5_in cX5_in 3 (some .boolean), .methodLink RX5 132 yX5_tells, .instanceMethod yX5_tells, .selects RX5 yX5_tells yX5_tells, .code yX5_tells cX5_tells 3 (some .int), .fieldLink RX5 67 "BurstWordsModel" "many" "I", .fieldLink RX5 17 "BurstWordsModel" "word" "[J", .methodLink RX5 59 yX5_size, .static yX5_size, .code yX5_size cX5_size 3 (some .int), .methodLink RX5 52 yX5_sign, .static yX5_sign, .code yX5_sign cX5_sign 3 (some .int), .constantLong RX5 46 (27), .methodLink RX5 48 yX5_unit, .static yX5_unit, .code yX5_unit cX5_unit 4 (some .long)] ++ wsX50)
def wsX5_next_r1 : List Cond := [Cond.fieldLink RX5 43 "BurstWordsModel" "thrown" "I", Cond.fieldLink RX5 67 "BurstWordsModel" "many" "I", Cond.fieldLink RX5 17 "BurstWordsModel" "word" "[J", Cond.methodLink RX5 128 yX5_isAt, Cond.static yX5_isAt, Cond.initialized RX5, Cond.code yX5_isAt cX5_isAt 1 (some .boolean), Cond.methodLink RX5 81 yX5_in, Cond.static yX5_in, Cond.code yX5_in cX5_in 3 (some .boolean), Cond.methodLink RX5 94 yX5_own, Cond.instanceMethod yX5_own, Cond.selects RX5 yX5_own yX5_own, Cond.code yX5_own cX5_own 4 (some .long), Cond.constantLong RX5 46 (27), Cond.fieldLink RX5 56 "BurstWordsModel" "typedMany" "I", Cond.fieldLink RX5 7 "BurstWordsModel" "typed" "[I", Cond.methodLink RX5 132 yX5_tells, Cond.instanceMethod yX5_tells, Cond.selects RX5 yX5_tells yX5_tells, Cond.code yX5_tells cX5_tells 3 (some .int), Cond.methodLink RX5 59 yX5_size, Cond.static yX5_size, Cond.code yX5_size cX5_size 3 (some .int)]
def wsX5_next_r2 : List Cond := [Cond.methodLink RX5 52 yX5_sign, Cond.static yX5_sign, Cond.code yX5_sign cX5_sign 3 (some .int), Cond.methodLink RX5 48 yX5_unit, Cond.static yX5_unit, Cond.code yX5_unit cX5_unit 4 (some .long)]
def wsX5_next : List Cond := .code yX5_next cX5_next 3 (some .int) :: ((wsX5_next_r1 ++ wsX5_next_r2) ++ wsX50)
def wsX5_top_r1 : List Cond := [Cond.fieldLink RX5 43 "BurstWordsModel" "thrown" "I", Cond.fieldLink RX5 67 "BurstWordsModel" "many" "I", Cond.fieldLink RX5 39 "BurstWordsModel" "taken" "[Z", Cond.fieldLink RX5 17 "BurstWordsModel" "word" "[J", Cond.fieldLink RX5 21 "BurstWordsModel" "often" "[I", Cond.methodLink RX5 128 yX5_isAt, Cond.static yX5_isAt, Cond.initialized RX5, Cond.code yX5_isAt cX5_isAt 1 (some .boolean), Cond.methodLink RX5 81 yX5_in, Cond.static yX5_in, Cond.code yX5_in cX5_in 3 (some .boolean), Cond.methodLink RX5 94 yX5_own, Cond.instanceMethod yX5_own, Cond.selects RX5 yX5_own yX5_own, Cond.code yX5_own cX5_own 4 (some .long), Cond.constantLong RX5 46 (27), Cond.fieldLink RX5 56 "BurstWordsModel" "typedMany" "I", Cond.fieldLink RX5 7 "BurstWordsModel" "typed" "[I", Cond.methodLink RX5 70 yX5_begins, Cond.static yX5_begins, Cond.code yX5_begins cX5_begins 4 (some .boolean), Cond.methodLink RX5 59 yX5_size, Cond.static yX5_size]
def wsX5_top_r2 : List Cond := [Cond.code yX5_size cX5_size 3 (some .int), Cond.methodLink RX5 52 yX5_sign, Cond.static yX5_sign, Cond.code yX5_sign cX5_sign 3 (some .int), Cond.methodLink RX5 48 yX5_unit, Cond.static yX5_unit, Cond.code yX5_unit cX5_unit 4 (some .long), Cond.methodLink RX5 63 yX5_head, Cond.static yX5_head, Cond.code yX5_head cX5_head 3 (some .long), Cond.methodLink RX5 132 yX5_tells, Cond.instanceMethod yX5_tells, Cond.selects RX5 yX5_tells yX5_tells, Cond.code yX5_tells cX5_tells 3 (some .int)]
def wsX5_top : List Cond := .code yX5_top cX5_top 6 (some .int) :: ((wsX5_top_r1 ++ wsX5_top_r2) ++ wsX50)
def wsX5_sees : List Cond := .code yX5_sees cX5_sees 4 (some .int) :: ([.fieldLink RX5 43 "BurstWordsModel" "thrown" "I", .fieldLink RX5 135 "BurstWordsModel" "seenMany" "I", .fieldLink RX5 30 "BurstWordsModel" "seenAt" "[I", .fieldLink RX5 33 "BurstWordsModel" "seenLetter" "[I", .fieldLink RX5 36 "BurstWordsModel" "seenIs" "[I", .methodLink RX5 81 yX5_in, .static yX5_in, .initialized RX5, .code yX5_in cX5_in 3 (some .boolean)] ++ wsX50)
def wsX5_forget : List Cond := .code yX5_forget cX5_forget 2 (some .int) :: ([.fieldLink RX5 43 "BurstWordsModel" "thrown" "I", .fieldLink RX5 135 "BurstWordsModel" "seenMany" "I"] ++ wsX50)
def wsX5_fits : List Cond := .code yX5_fits cX5_fits 4 (some .boolean) :: ([.fieldLink RX5 135 "BurstWordsModel" "seenMany" "I", .fieldLink RX5 17 "BurstWordsModel" "word" "[J", .fieldLink RX5 30 "BurstWordsModel" "seenAt" "[I", .fieldLink RX5 33 "BurstWordsModel" "seenLetter" "[I", .fieldLink RX5 36 "BurstWordsModel" "seenIs" "[I", .methodLink RX5 52 yX5_sign, .static yX5_sign, .initialized RX5, .code yX5_sign cX5_sign 3 (some .int), .constantLong RX5 46 (27), .methodLink RX5 48 yX5_unit, .static yX5_unit, .code yX5_unit cX5_unit 4 (some .long)] ++ wsX50)
def wsX5_fitMany : List Cond := .code yX5_fitMany cX5_fitMany 3 (some .int) :: ([.fieldLink RX5 67 "BurstWordsModel" "many" "I", .methodLink RX5 138 yX5_fits, .instanceMethod yX5_fits, .selects RX5 yX5_fits yX5_fits, .initialized RX5, .code yX5_fits cX5_fits 4 (some .boolean), .fieldLink RX5 135 "BurstWordsModel" "seenMany" "I", .fieldLink RX5 17 "BurstWordsModel" "word" "[J", .fieldLink RX5 30 "BurstWordsModel" "seenAt" "[I", .fieldLink RX5 33 "BurstWordsModel" "seenLetter" "[I", .fieldLink RX5 36 "BurstWordsModel" "seenIs" "[I", .methodLink RX5 52 yX5_sign, .static yX5_sign, .code yX5_sign cX5_sign 3 (some .int), .constantLong RX5 46 (27), .methodLink RX5 48 yX5_unit, .static yX5_unit, .code yX5_unit cX5_unit 4 (some .long)] ++ wsX50)
def wsX5_fit_r1 : List Cond := [Cond.fieldLink RX5 43 "BurstWordsModel" "thrown" "I", Cond.fieldLink RX5 67 "BurstWordsModel" "many" "I", Cond.methodLink RX5 81 yX5_in, Cond.static yX5_in, Cond.initialized RX5, Cond.code yX5_in cX5_in 3 (some .boolean), Cond.methodLink RX5 138 yX5_fits, Cond.instanceMethod yX5_fits, Cond.selects RX5 yX5_fits yX5_fits, Cond.code yX5_fits cX5_fits 4 (some .boolean), Cond.fieldLink RX5 135 "BurstWordsModel" "seenMany" "I", Cond.fieldLink RX5 17 "BurstWordsModel" "word" "[J", Cond.fieldLink RX5 30 "BurstWordsModel" "seenAt" "[I", Cond.fieldLink RX5 33 "BurstWordsModel" "seenLetter" "[I", Cond.fieldLink RX5 36 "BurstWordsModel" "seenIs" "[I", Cond.methodLink RX5 52 yX5_sign, Cond.static yX5_sign, Cond.code yX5_sign cX5_sign 3 (some .int), Cond.constantLong RX5 46 (27), Cond.methodLink RX5 48 yX5_unit, Cond.static yX5_unit, Cond.code yX5_unit cX5_unit 4 (some .long), Cond.methodLink RX5 141 yX5_fitMany, Cond.instanceMethod yX5_fitMany]
def wsX5_fit_r2 : List Cond := [Cond.selects RX5 yX5_fitMany yX5_fitMany, Cond.code yX5_fitMany cX5_fitMany 3 (some .int)]
def wsX5_fit : List Cond := .code yX5_fit cX5_fit 3 (some .int) :: ((wsX5_fit_r1 ++ wsX5_fit_r2) ++ wsX50)
def wsX5_ask : List Cond := .code yX5_ask cX5_ask 8 (some .int) :: ([.fieldLink RX5 43 "BurstWordsModel" "thrown" "I", .fieldLink RX5 67 "BurstWordsModel" "many" "I", .fieldLink RX5 39 "BurstWordsModel" "taken" "[Z", .fieldLink RX5 17 "BurstWordsModel" "word" "[J", .methodLink RX5 141 yX5_fitMany, .instanceMethod yX5_fitMany, .selects RX5 yX5_fitMany yX5_fitMany, .initialized RX5, .code yX5_fitMany cX5_fitMany 3 (some .int), .methodLink RX5 138 yX5_fits, .instanceMethod yX5_fits, .selects RX5 yX5_fits yX5_fits, .code yX5_fits cX5_fits 4 (some .boolean), .fieldLink RX5 135 "BurstWordsModel" "seenMany" "I", .fieldLink RX5 30 "BurstWordsModel" "seenAt" "[I", .fieldLink RX5 33 "BurstWordsModel" "seenLetter" "[I", .fieldLink RX5 36 "BurstWordsModel" "seenIs" "[I", .methodLink RX5 52 yX5_sign, .static yX5_sign, .code yX5_sign cX5_sign 3 (some .int), .constantLong RX5 46 (27), .methodLink RX5 48 yX5_unit, .static yX5_unit, .code yX5_unit cX5_unit 4 (some .long)] ++ wsX50)
def wsX5_containers_r1 : List Cond := [Cond.fieldLink RX5 67 "BurstWordsModel" "many" "I", Cond.fieldLink RX5 17 "BurstWordsModel" "word" "[J", Cond.methodLink RX5 88 yX5_containerSize, Cond.instanceMethod yX5_containerSize, Cond.selects RX5 yX5_containerSize yX5_containerSize, Cond.initialized RX5, Cond.code yX5_containerSize cX5_containerSize 4 (some .int), Cond.methodLink RX5 59 yX5_size, Cond.static yX5_size, Cond.code yX5_size cX5_size 3 (some .int), Cond.methodLink RX5 52 yX5_sign, Cond.static yX5_sign, Cond.code yX5_sign cX5_sign 3 (some .int), Cond.constantLong RX5 46 (27), Cond.methodLink RX5 48 yX5_unit, Cond.static yX5_unit, Cond.code yX5_unit cX5_unit 4 (some .long), Cond.methodLink RX5 63 yX5_head, Cond.static yX5_head, Cond.code yX5_head cX5_head 3 (some .long), Cond.methodLink RX5 77 yX5_isNode, Cond.instanceMethod yX5_isNode, Cond.selects RX5 yX5_isNode yX5_isNode, Cond.code yX5_isNode cX5_isNode 5 (some .boolean)]
def wsX5_containers_r2 : List Cond := [Cond.fieldLink RX5 74 "BurstWordsModel" "nodeMany" "I", Cond.fieldLink RX5 24 "BurstWordsModel" "node" "[J"]
def wsX5_containers : List Cond := .code yX5_containers cX5_containers 5 (some .int) :: ((wsX5_containers_r1 ++ wsX5_containers_r2) ++ wsX50)
def wsX5_fullest_r1 : List Cond := [Cond.fieldLink RX5 67 "BurstWordsModel" "many" "I", Cond.fieldLink RX5 17 "BurstWordsModel" "word" "[J", Cond.methodLink RX5 88 yX5_containerSize, Cond.instanceMethod yX5_containerSize, Cond.selects RX5 yX5_containerSize yX5_containerSize, Cond.initialized RX5, Cond.code yX5_containerSize cX5_containerSize 4 (some .int), Cond.methodLink RX5 59 yX5_size, Cond.static yX5_size, Cond.code yX5_size cX5_size 3 (some .int), Cond.methodLink RX5 52 yX5_sign, Cond.static yX5_sign, Cond.code yX5_sign cX5_sign 3 (some .int), Cond.constantLong RX5 46 (27), Cond.methodLink RX5 48 yX5_unit, Cond.static yX5_unit, Cond.code yX5_unit cX5_unit 4 (some .long), Cond.methodLink RX5 63 yX5_head, Cond.static yX5_head, Cond.code yX5_head cX5_head 3 (some .long), Cond.methodLink RX5 77 yX5_isNode, Cond.instanceMethod yX5_isNode, Cond.selects RX5 yX5_isNode yX5_isNode, Cond.code yX5_isNode cX5_isNode 5 (some .boolean)]
def wsX5_fullest_r2 : List Cond := [Cond.fieldLink RX5 74 "BurstWordsModel" "nodeMany" "I", Cond.fieldLink RX5 24 "BurstWordsModel" "node" "[J", Cond.methodLink RX5 91 yX5_beginning, Cond.instanceMethod yX5_beginning, Cond.selects RX5 yX5_beginning yX5_beginning, Cond.code yX5_beginning cX5_beginning 5 (some .int), Cond.methodLink RX5 70 yX5_begins, Cond.static yX5_begins, Cond.code yX5_begins cX5_begins 4 (some .boolean)]
def wsX5_fullest : List Cond := .code yX5_fullest cX5_fullest 5 (some .int) :: ((wsX5_fullest_r1 ++ wsX5_fullest_r2) ++ wsX50)
def wsX5_deepest_r1 : List Cond := [Cond.fieldLink RX5 67 "BurstWordsModel" "many" "I", Cond.fieldLink RX5 17 "BurstWordsModel" "word" "[J", Cond.methodLink RX5 117 yX5_depthOf, Cond.instanceMethod yX5_depthOf, Cond.selects RX5 yX5_depthOf yX5_depthOf, Cond.initialized RX5, Cond.code yX5_depthOf cX5_depthOf 5 (some .int), Cond.methodLink RX5 59 yX5_size, Cond.static yX5_size, Cond.code yX5_size cX5_size 3 (some .int), Cond.methodLink RX5 52 yX5_sign, Cond.static yX5_sign, Cond.code yX5_sign cX5_sign 3 (some .int), Cond.constantLong RX5 46 (27), Cond.methodLink RX5 48 yX5_unit, Cond.static yX5_unit, Cond.code yX5_unit cX5_unit 4 (some .long), Cond.methodLink RX5 63 yX5_head, Cond.static yX5_head, Cond.code yX5_head cX5_head 3 (some .long), Cond.methodLink RX5 77 yX5_isNode, Cond.instanceMethod yX5_isNode, Cond.selects RX5 yX5_isNode yX5_isNode, Cond.code yX5_isNode cX5_isNode 5 (some .boolean)]
def wsX5_deepest_r2 : List Cond := [Cond.fieldLink RX5 74 "BurstWordsModel" "nodeMany" "I", Cond.fieldLink RX5 24 "BurstWordsModel" "node" "[J"]
def wsX5_deepest : List Cond := .code yX5_deepest cX5_deepest 3 (some .int) :: ((wsX5_deepest_r1 ++ wsX5_deepest_r2) ++ wsX50)
def wsX5_letters_r1 : List Cond := [Cond.fieldLink RX5 67 "BurstWordsModel" "many" "I", Cond.fieldLink RX5 17 "BurstWordsModel" "word" "[J", Cond.methodLink RX5 88 yX5_containerSize, Cond.instanceMethod yX5_containerSize, Cond.selects RX5 yX5_containerSize yX5_containerSize, Cond.initialized RX5, Cond.code yX5_containerSize cX5_containerSize 4 (some .int), Cond.methodLink RX5 59 yX5_size, Cond.static yX5_size, Cond.code yX5_size cX5_size 3 (some .int), Cond.methodLink RX5 52 yX5_sign, Cond.static yX5_sign, Cond.code yX5_sign cX5_sign 3 (some .int), Cond.constantLong RX5 46 (27), Cond.methodLink RX5 48 yX5_unit, Cond.static yX5_unit, Cond.code yX5_unit cX5_unit 4 (some .long), Cond.methodLink RX5 63 yX5_head, Cond.static yX5_head, Cond.code yX5_head cX5_head 3 (some .long), Cond.methodLink RX5 77 yX5_isNode, Cond.instanceMethod yX5_isNode, Cond.selects RX5 yX5_isNode yX5_isNode, Cond.code yX5_isNode cX5_isNode 5 (some .boolean)]
def wsX5_letters_r2 : List Cond := [Cond.fieldLink RX5 74 "BurstWordsModel" "nodeMany" "I", Cond.fieldLink RX5 24 "BurstWordsModel" "node" "[J"]
def wsX5_letters : List Cond := .code yX5_letters cX5_letters 4 (some .int) :: ((wsX5_letters_r1 ++ wsX5_letters_r2) ++ wsX50)
def wsX5_sharedBy : List Cond := .code yX5_sharedBy cX5_sharedBy 3 (some .int) :: ([.fieldLink RX5 17 "BurstWordsModel" "word" "[J", .methodLink RX5 52 yX5_sign, .static yX5_sign, .initialized RX5, .code yX5_sign cX5_sign 3 (some .int), .constantLong RX5 46 (27), .methodLink RX5 48 yX5_unit, .static yX5_unit, .code yX5_unit cX5_unit 4 (some .long)] ++ wsX50)
def wsX5_shared : List Cond := .code yX5_shared cX5_shared 6 (some .int) :: ([.fieldLink RX5 67 "BurstWordsModel" "many" "I", .methodLink RX5 144 yX5_sharedBy, .instanceMethod yX5_sharedBy, .selects RX5 yX5_sharedBy yX5_sharedBy, .initialized RX5, .code yX5_sharedBy cX5_sharedBy 3 (some .int), .fieldLink RX5 17 "BurstWordsModel" "word" "[J", .methodLink RX5 52 yX5_sign, .static yX5_sign, .code yX5_sign cX5_sign 3 (some .int), .constantLong RX5 46 (27), .methodLink RX5 48 yX5_unit, .static yX5_unit, .code yX5_unit cX5_unit 4 (some .long)] ++ wsX50)
def wsX5_count_r1 : List Cond := [Cond.fieldLink RX5 43 "BurstWordsModel" "thrown" "I", Cond.fieldLink RX5 67 "BurstWordsModel" "many" "I", Cond.fieldLink RX5 74 "BurstWordsModel" "nodeMany" "I", Cond.fieldLink RX5 13 "BurstWordsModel" "b" "I", Cond.fieldLink RX5 56 "BurstWordsModel" "typedMany" "I", Cond.fieldLink RX5 85 "BurstWordsModel" "undoMany" "I", Cond.methodLink RX5 81 yX5_in, Cond.static yX5_in, Cond.initialized RX5, Cond.code yX5_in cX5_in 3 (some .boolean), Cond.methodLink RX5 120 yX5_all, Cond.instanceMethod yX5_all, Cond.selects RX5 yX5_all yX5_all, Cond.code yX5_all cX5_all 3 (some .int), Cond.fieldLink RX5 21 "BurstWordsModel" "often" "[I", Cond.methodLink RX5 148 yX5_containers, Cond.instanceMethod yX5_containers, Cond.selects RX5 yX5_containers yX5_containers, Cond.code yX5_containers cX5_containers 5 (some .int), Cond.fieldLink RX5 17 "BurstWordsModel" "word" "[J", Cond.methodLink RX5 88 yX5_containerSize, Cond.instanceMethod yX5_containerSize, Cond.selects RX5 yX5_containerSize yX5_containerSize, Cond.code yX5_containerSize cX5_containerSize 4 (some .int)]
def wsX5_count_r2 : List Cond := [Cond.methodLink RX5 59 yX5_size, Cond.static yX5_size, Cond.code yX5_size cX5_size 3 (some .int), Cond.methodLink RX5 52 yX5_sign, Cond.static yX5_sign, Cond.code yX5_sign cX5_sign 3 (some .int), Cond.constantLong RX5 46 (27), Cond.methodLink RX5 48 yX5_unit, Cond.static yX5_unit, Cond.code yX5_unit cX5_unit 4 (some .long), Cond.methodLink RX5 63 yX5_head, Cond.static yX5_head, Cond.code yX5_head cX5_head 3 (some .long), Cond.methodLink RX5 77 yX5_isNode, Cond.instanceMethod yX5_isNode, Cond.selects RX5 yX5_isNode yX5_isNode, Cond.code yX5_isNode cX5_isNode 5 (some .boolean), Cond.fieldLink RX5 24 "BurstWordsModel" "node" "[J", Cond.methodLink RX5 151 yX5_fullest, Cond.instanceMethod yX5_fullest, Cond.selects RX5 yX5_fullest yX5_fullest, Cond.code yX5_fullest cX5_fullest 5 (some .int), Cond.methodLink RX5 91 yX5_beginning, Cond.instanceMethod yX5_beginning]
def wsX5_count_r3 : List Cond := [Cond.selects RX5 yX5_beginning yX5_beginning, Cond.code yX5_beginning cX5_beginning 5 (some .int), Cond.methodLink RX5 70 yX5_begins, Cond.static yX5_begins, Cond.code yX5_begins cX5_begins 4 (some .boolean), Cond.methodLink RX5 154 yX5_deepest, Cond.instanceMethod yX5_deepest, Cond.selects RX5 yX5_deepest yX5_deepest, Cond.code yX5_deepest cX5_deepest 3 (some .int), Cond.methodLink RX5 117 yX5_depthOf, Cond.instanceMethod yX5_depthOf, Cond.selects RX5 yX5_depthOf yX5_depthOf, Cond.code yX5_depthOf cX5_depthOf 5 (some .int), Cond.methodLink RX5 157 yX5_letters, Cond.instanceMethod yX5_letters, Cond.selects RX5 yX5_letters yX5_letters, Cond.code yX5_letters cX5_letters 4 (some .int), Cond.methodLink RX5 160 yX5_shared, Cond.instanceMethod yX5_shared, Cond.selects RX5 yX5_shared yX5_shared, Cond.code yX5_shared cX5_shared 6 (some .int), Cond.methodLink RX5 144 yX5_sharedBy, Cond.instanceMethod yX5_sharedBy, Cond.selects RX5 yX5_sharedBy yX5_sharedBy]
def wsX5_count_r4 : List Cond := [Cond.code yX5_sharedBy cX5_sharedBy 3 (some .int)]
def wsX5_count : List Cond := .code yX5_count cX5_count 2 (some .int) :: ((wsX5_count_r1 ++ (wsX5_count_r2 ++ (wsX5_count_r3 ++ wsX5_count_r4))) ++ wsX50)
def wsX5_digest_r1 : List Cond := [Cond.fieldLink RX5 43 "BurstWordsModel" "thrown" "I", Cond.constantLong RX5 164 (17), Cond.fieldLink RX5 67 "BurstWordsModel" "many" "I", Cond.fieldLink RX5 17 "BurstWordsModel" "word" "[J", Cond.constantLong RX5 166 (31), Cond.constantLong RX5 168 (97), Cond.fieldLink RX5 21 "BurstWordsModel" "often" "[I", Cond.methodLink RX5 59 yX5_size, Cond.static yX5_size, Cond.initialized RX5, Cond.code yX5_size cX5_size 3 (some .int), Cond.methodLink RX5 52 yX5_sign, Cond.static yX5_sign, Cond.code yX5_sign cX5_sign 3 (some .int), Cond.constantLong RX5 46 (27), Cond.methodLink RX5 48 yX5_unit, Cond.static yX5_unit, Cond.code yX5_unit cX5_unit 4 (some .long), Cond.methodLink RX5 117 yX5_depthOf, Cond.instanceMethod yX5_depthOf, Cond.selects RX5 yX5_depthOf yX5_depthOf, Cond.code yX5_depthOf cX5_depthOf 5 (some .int), Cond.methodLink RX5 63 yX5_head, Cond.static yX5_head]
def wsX5_digest_r2 : List Cond := [Cond.code yX5_head cX5_head 3 (some .long), Cond.methodLink RX5 77 yX5_isNode, Cond.instanceMethod yX5_isNode, Cond.selects RX5 yX5_isNode yX5_isNode, Cond.code yX5_isNode cX5_isNode 5 (some .boolean), Cond.fieldLink RX5 74 "BurstWordsModel" "nodeMany" "I", Cond.fieldLink RX5 24 "BurstWordsModel" "node" "[J"]
def wsX5_digest : List Cond := .code yX5_digest cX5_digest 5 (some .long) :: ((wsX5_digest_r1 ++ wsX5_digest_r2) ++ wsX50)
def wsJ9_max_7cf53 : List Cond := .code yJ9_max_7cf53 cJ9_max_7cf53 2 (some .int) :: ([])
def wsJ9_min_7cf53 : List Cond := .code yJ9_min_7cf53 cJ9_min_7cf53 2 (some .int) :: ([])
def wsL_law_r1 : List Cond := [Cond.classLink RL 7 RX4, Cond.instantiable RX4 6, Cond.initialized RX4, Cond.classLink RL 10 RX5, Cond.instantiable RX5 16, Cond.initialized RX5, Cond.methodLink RL 9 yX4_init, Cond.instanceMethod yX4_init, Cond.code yX4_init cX4_init 1 none, Cond.methodLink RX4 1 objectInit, Cond.instanceMethod objectInit, Cond.code objectInit ⟨#[0xb1]⟩ 1 none, Cond.classLink RX4 7 RX0, Cond.instantiable RX0 4, Cond.initialized RX0, Cond.fieldLink RX4 10 "BurstWords" "dictionary" "LBurstWords$Dictionary;", Cond.classLink RX4 16 RX1, Cond.instantiable RX1 4, Cond.initialized RX1, Cond.fieldLink RX4 19 "BurstWords" "history" "LBurstWords$History;", Cond.classLink RX4 23 RX2, Cond.instantiable RX2 4, Cond.initialized RX2, Cond.fieldLink RX4 26 "BurstWords" "sightings" "LBurstWords$Sightings;"]
def wsL_law_r2 : List Cond := [Cond.arrayClass .int, Cond.fieldLink RX4 30 "BurstWords" "tally" "[I", Cond.fieldLink RX4 36 "BurstWords" "word" "J", Cond.fieldLink RX4 40 "BurstWords" "bound" "I", Cond.instanceMethod yX0_init, Cond.code yX0_init cX0_init 1 none, Cond.methodLink RX0 3 objectInit, Cond.arrayClass .long, Cond.fieldLink RX0 9 "BurstWords$Dictionary" "words" "[J", Cond.fieldLink RX0 15 "BurstWords$Dictionary" "often" "[I", Cond.fieldLink RX0 19 "BurstWords$Dictionary" "depths" "[I", Cond.fieldLink RX0 22 "BurstWords$Dictionary" "size" "I", Cond.instanceMethod yX1_init, Cond.code yX1_init cX1_init 1 none, Cond.methodLink RX1 3 objectInit, Cond.fieldLink RX1 9 "BurstWords$History" "words" "[J", Cond.fieldLink RX1 15 "BurstWords$History" "often" "[I", Cond.fieldLink RX1 19 "BurstWords$History" "depths" "[I", Cond.fieldLink RX1 22 "BurstWords$History" "size" "I", Cond.instanceMethod yX2_init, Cond.code yX2_init cX2_init 1 none, Cond.methodLink RX2 3 objectInit, Cond.fieldLink RX2 9 "BurstWords$Sightings" "places" "[I", Cond.fieldLink RX2 15 "BurstWords$Sightings" "letters" "[I"]
def wsL_law_r3 : List Cond := [Cond.arrayClass .boolean, Cond.fieldLink RX2 18 "BurstWords$Sightings" "so" "[Z", Cond.fieldLink RX2 22 "BurstWords$Sightings" "size" "I", Cond.methodLink RL 12 yX5_init, Cond.instanceMethod yX5_init, Cond.code yX5_init cX5_init 1 none, Cond.methodLink RX5 1 objectInit, Cond.fieldLink RX5 7 "BurstWordsModel" "typed" "[I", Cond.fieldLink RX5 13 "BurstWordsModel" "b" "I", Cond.fieldLink RX5 17 "BurstWordsModel" "word" "[J", Cond.fieldLink RX5 21 "BurstWordsModel" "often" "[I", Cond.fieldLink RX5 24 "BurstWordsModel" "node" "[J", Cond.fieldLink RX5 27 "BurstWordsModel" "undos" "[J", Cond.fieldLink RX5 30 "BurstWordsModel" "seenAt" "[I", Cond.fieldLink RX5 33 "BurstWordsModel" "seenLetter" "[I", Cond.fieldLink RX5 36 "BurstWordsModel" "seenIs" "[I", Cond.fieldLink RX5 39 "BurstWordsModel" "taken" "[Z", Cond.fieldLink RX5 43 "BurstWordsModel" "thrown" "I", Cond.methodLink RL 13 yX4_type, Cond.instanceMethod yX4_type, Cond.selects RX4 yX4_type yX4_type, Cond.code yX4_type cX4_type 3 (some .int), Cond.methodLink RX4 44 yX3_isLetter, Cond.static yX3_isLetter]
def wsL_law_r4 : List Cond := [Cond.initialized RX3, Cond.code yX3_isLetter cX3_isLetter 1 (some .boolean), Cond.methodLink RX4 48 yX3_lengthOf, Cond.static yX3_lengthOf, Cond.code yX3_lengthOf cX3_lengthOf 3 (some .int), Cond.methodLink RX3 15 yX3_letterAt, Cond.static yX3_letterAt, Cond.code yX3_letterAt cX3_letterAt 3 (some .int), Cond.methodLink RX3 9 yX3_shiftOf, Cond.static yX3_shiftOf, Cond.code yX3_shiftOf cX3_shiftOf 1 (some .int), Cond.methodLink RX4 52 yX3_extended, Cond.static yX3_extended, Cond.code yX3_extended cX3_extended 4 (some .long), Cond.methodLink RL 17 yX5_type, Cond.instanceMethod yX5_type, Cond.selects RX5 yX5_type yX5_type, Cond.code yX5_type cX5_type 2 (some .int), Cond.fieldLink RX5 56 "BurstWordsModel" "typedMany" "I", Cond.methodLink RX5 81 yX5_in, Cond.static yX5_in, Cond.code yX5_in cX5_in 3 (some .boolean), Cond.methodLink RL 18 yX4_clear, Cond.instanceMethod yX4_clear]
def wsL_law_r5 : List Cond := [Cond.selects RX4 yX4_clear yX4_clear, Cond.code yX4_clear cX4_clear 2 (some .int), Cond.methodLink RL 22 yX5_clear, Cond.instanceMethod yX5_clear, Cond.selects RX5 yX5_clear yX5_clear, Cond.code yX5_clear cX5_clear 2 (some .int), Cond.methodLink RL 23 yX4_bounds, Cond.instanceMethod yX4_bounds, Cond.selects RX4 yX4_bounds yX4_bounds, Cond.code yX4_bounds cX4_bounds 3 (some .int), Cond.methodLink RX4 56 yX0_size, Cond.instanceMethod yX0_size, Cond.selects RX0 yX0_size yX0_size, Cond.code yX0_size cX0_size 1 (some .int), Cond.methodLink RX4 60 yX1_empty, Cond.instanceMethod yX1_empty, Cond.selects RX1 yX1_empty yX1_empty, Cond.code yX1_empty cX1_empty 1 none, Cond.methodLink RL 26 yX5_bounds, Cond.instanceMethod yX5_bounds, Cond.selects RX5 yX5_bounds yX5_bounds, Cond.code yX5_bounds cX5_bounds 3 (some .int), Cond.fieldLink RX5 67 "BurstWordsModel" "many" "I", Cond.fieldLink RX5 85 "BurstWordsModel" "undoMany" "I"]
def wsL_law_r6 : List Cond := [Cond.methodLink RL 27 yX4_adds, Cond.instanceMethod yX4_adds, Cond.selects RX4 yX4_adds yX4_adds, Cond.code yX4_adds cX4_adds 3 (some .int), Cond.methodLink RX4 63 yX0_oftenOf, Cond.instanceMethod yX0_oftenOf, Cond.selects RX0 yX0_oftenOf yX0_oftenOf, Cond.code yX0_oftenOf cX0_oftenOf 4 (some .int), Cond.methodLink RX0 36 yX0_placeOf, Cond.instanceMethod yX0_placeOf, Cond.selects RX0 yX0_placeOf yX0_placeOf, Cond.code yX0_placeOf cX0_placeOf 4 (some .int), Cond.methodLink RX0 32 yX0_wordAt, Cond.instanceMethod yX0_wordAt, Cond.selects RX0 yX0_wordAt yX0_wordAt, Cond.code yX0_wordAt cX0_wordAt 2 (some .long), Cond.methodLink RX0 26 yX0_has, Cond.instanceMethod yX0_has, Cond.selects RX0 yX0_has yX0_has, Cond.code yX0_has cX0_has 2 (some .boolean), Cond.methodLink RX0 40 yX0_oftenAt, Cond.instanceMethod yX0_oftenAt, Cond.selects RX0 yX0_oftenAt yX0_oftenAt, Cond.code yX0_oftenAt cX0_oftenAt 2 (some .int)]
def wsL_law_r7 : List Cond := [Cond.methodLink RX4 66 yX0_depthOf, Cond.instanceMethod yX0_depthOf, Cond.selects RX0 yX0_depthOf yX0_depthOf, Cond.code yX0_depthOf cX0_depthOf 6 (some .int), Cond.methodLink RX0 68 Lib.Math.min.name, Cond.static Lib.Math.min.name, Cond.initialized "java/lang/Math", Cond.code Lib.Math.min.name Lib.Math.min.code 2 (some .int), Cond.methodLink RX0 74 Lib.Math.max.name, Cond.static Lib.Math.max.name, Cond.code Lib.Math.max.name Lib.Math.max.code 2 (some .int), Cond.methodLink RX0 61 yX3_sharedBy, Cond.static yX3_sharedBy, Cond.code yX3_sharedBy cX3_sharedBy 5 (some .int), Cond.methodLink RX0 65 yX0_depthAt, Cond.instanceMethod yX0_depthAt, Cond.selects RX0 yX0_depthAt yX0_depthAt, Cond.code yX0_depthAt cX0_depthAt 2 (some .int), Cond.methodLink RX4 69 yX1_push, Cond.instanceMethod yX1_push, Cond.selects RX1 yX1_push yX1_push, Cond.code yX1_push cX1_push 5 none, Cond.methodLink RX1 26 yX1_loseOldest, Cond.instanceMethod yX1_loseOldest]
def wsL_law_r8 : List Cond := [Cond.selects RX1 yX1_loseOldest yX1_loseOldest, Cond.code yX1_loseOldest cX1_loseOldest 1 none, Cond.methodLink RX1 29 arraycopyName, Cond.native arraycopyName, Cond.static arraycopyName, Cond.initialized "java/lang/System", Cond.methodLink RX4 73 yX0_put, Cond.instanceMethod yX0_put, Cond.selects RX0 yX0_put yX0_put, Cond.code yX0_put cX0_put 6 none, Cond.methodLink RX0 44 yX0_insert, Cond.instanceMethod yX0_insert, Cond.selects RX0 yX0_insert yX0_insert, Cond.code yX0_insert cX0_insert 7 none, Cond.methodLink RX0 55 arraycopyName, Cond.methodLink RX0 52 yX0_depthOf, Cond.methodLink RX0 48 yX0_remove, Cond.instanceMethod yX0_remove, Cond.selects RX0 yX0_remove yX0_remove, Cond.code yX0_remove cX0_remove 3 none, Cond.methodLink RX4 77 yX0_burstDepth, Cond.instanceMethod yX0_burstDepth, Cond.selects RX0 yX0_burstDepth yX0_burstDepth, Cond.code yX0_burstDepth cX0_burstDepth 7 (some .int)]
def wsL_law_r9 : List Cond := [Cond.methodLink RX0 77 yX3_lengthOf, Cond.methodLink RX0 80 yX0_sharing, Cond.instanceMethod yX0_sharing, Cond.selects RX0 yX0_sharing yX0_sharing, Cond.code yX0_sharing cX0_sharing 6 (some .int), Cond.methodLink RX4 81 yX0_reshape, Cond.instanceMethod yX0_reshape, Cond.selects RX0 yX0_reshape yX0_reshape, Cond.code yX0_reshape cX0_reshape 8 none, Cond.methodLink RL 30 yX5_adds, Cond.instanceMethod yX5_adds, Cond.selects RX5 yX5_adds yX5_adds, Cond.code yX5_adds cX5_adds 5 (some .int), Cond.methodLink RX5 94 yX5_own, Cond.instanceMethod yX5_own, Cond.selects RX5 yX5_own yX5_own, Cond.code yX5_own cX5_own 4 (some .long), Cond.constantLong RX5 46 (27), Cond.methodLink RX5 98 yX5_placeOf, Cond.instanceMethod yX5_placeOf, Cond.selects RX5 yX5_placeOf yX5_placeOf, Cond.code yX5_placeOf cX5_placeOf 5 (some .int), Cond.methodLink RX5 101 yX5_notes, Cond.instanceMethod yX5_notes]
def wsL_law_r10 : List Cond := [Cond.selects RX5 yX5_notes yX5_notes, Cond.code yX5_notes cX5_notes 3 none, Cond.fieldLink RX5 74 "BurstWordsModel" "nodeMany" "I", Cond.methodLink RX5 104 yX5_bursts, Cond.instanceMethod yX5_bursts, Cond.selects RX5 yX5_bursts yX5_bursts, Cond.code yX5_bursts cX5_bursts 4 none, Cond.methodLink RX5 88 yX5_containerSize, Cond.instanceMethod yX5_containerSize, Cond.selects RX5 yX5_containerSize yX5_containerSize, Cond.code yX5_containerSize cX5_containerSize 4 (some .int), Cond.methodLink RX5 59 yX5_size, Cond.static yX5_size, Cond.code yX5_size cX5_size 3 (some .int), Cond.methodLink RX5 52 yX5_sign, Cond.static yX5_sign, Cond.code yX5_sign cX5_sign 3 (some .int), Cond.methodLink RX5 48 yX5_unit, Cond.static yX5_unit, Cond.code yX5_unit cX5_unit 4 (some .long), Cond.methodLink RX5 63 yX5_head, Cond.static yX5_head, Cond.code yX5_head cX5_head 3 (some .long), Cond.methodLink RX5 77 yX5_isNode]
def wsL_law_r11 : List Cond := [Cond.instanceMethod yX5_isNode, Cond.selects RX5 yX5_isNode yX5_isNode, Cond.code yX5_isNode cX5_isNode 5 (some .boolean), Cond.methodLink RX5 91 yX5_beginning, Cond.instanceMethod yX5_beginning, Cond.selects RX5 yX5_beginning yX5_beginning, Cond.code yX5_beginning cX5_beginning 5 (some .int), Cond.methodLink RX5 70 yX5_begins, Cond.static yX5_begins, Cond.code yX5_begins cX5_begins 4 (some .boolean), Cond.methodLink RL 31 yX4_takes, Cond.instanceMethod yX4_takes, Cond.selects RX4 yX4_takes yX4_takes, Cond.code yX4_takes cX4_takes 3 (some .int), Cond.methodLink RX4 84 yX0_mergedDepth, Cond.instanceMethod yX0_mergedDepth, Cond.selects RX0 yX0_mergedDepth yX0_mergedDepth, Cond.code yX0_mergedDepth cX0_mergedDepth 6 (some .int), Cond.methodLink RL 34 yX5_takes, Cond.instanceMethod yX5_takes, Cond.selects RX5 yX5_takes yX5_takes, Cond.code yX5_takes cX5_takes 6 (some .int), Cond.methodLink RX5 111 yX5_shrinks, Cond.instanceMethod yX5_shrinks]
def wsL_law_r12 : List Cond := [Cond.selects RX5 yX5_shrinks yX5_shrinks, Cond.code yX5_shrinks cX5_shrinks 7 none, Cond.methodLink RX5 108 yX5_leaves, Cond.instanceMethod yX5_leaves, Cond.selects RX5 yX5_leaves yX5_leaves, Cond.code yX5_leaves cX5_leaves 5 none, Cond.methodLink RL 35 yX4_undo, Cond.instanceMethod yX4_undo, Cond.selects RX4 yX4_undo yX4_undo, Cond.code yX4_undo cX4_undo 4 (some .int), Cond.methodLink RX4 87 yX1_size, Cond.instanceMethod yX1_size, Cond.selects RX1 yX1_size yX1_size, Cond.code yX1_size cX1_size 1 (some .int), Cond.methodLink RX4 88 yX1_lastWord, Cond.instanceMethod yX1_lastWord, Cond.selects RX1 yX1_lastWord yX1_lastWord, Cond.code yX1_lastWord cX1_lastWord 1 (some .long), Cond.methodLink RX1 35 yX1_hasLast, Cond.instanceMethod yX1_hasLast, Cond.selects RX1 yX1_hasLast yX1_hasLast, Cond.code yX1_hasLast cX1_hasLast 1 (some .boolean), Cond.methodLink RX4 92 yX1_lastOften, Cond.instanceMethod yX1_lastOften]
def wsL_law_r13 : List Cond := [Cond.selects RX1 yX1_lastOften yX1_lastOften, Cond.code yX1_lastOften cX1_lastOften 1 (some .int), Cond.methodLink RX4 95 yX1_lastDepth, Cond.instanceMethod yX1_lastDepth, Cond.selects RX1 yX1_lastDepth yX1_lastDepth, Cond.code yX1_lastDepth cX1_lastDepth 1 (some .int), Cond.methodLink RX4 98 yX1_drop, Cond.instanceMethod yX1_drop, Cond.selects RX1 yX1_drop yX1_drop, Cond.code yX1_drop cX1_drop 1 none, Cond.methodLink RL 38 yX5_undo, Cond.instanceMethod yX5_undo, Cond.selects RX5 yX5_undo yX5_undo, Cond.code yX5_undo cX5_undo 3 (some .int), Cond.methodLink RL 39 yX4_times, Cond.instanceMethod yX4_times, Cond.selects RX4 yX4_times yX4_times, Cond.code yX4_times cX4_times 1 (some .int), Cond.methodLink RL 42 yX5_times, Cond.instanceMethod yX5_times, Cond.selects RX5 yX5_times yX5_times, Cond.code yX5_times cX5_times 2 (some .int), Cond.methodLink RL 43 yX4_rank, Cond.instanceMethod yX4_rank]
def wsL_law_r14 : List Cond := [Cond.selects RX4 yX4_rank yX4_rank, Cond.code yX4_rank cX4_rank 1 (some .int), Cond.methodLink RX4 101 yX0_placeOf, Cond.methodLink RX4 104 yX0_oftenBelow, Cond.instanceMethod yX0_oftenBelow, Cond.selects RX0 yX0_oftenBelow yX0_oftenBelow, Cond.code yX0_oftenBelow cX0_oftenBelow 4 (some .int), Cond.methodLink RL 46 yX5_rank, Cond.instanceMethod yX5_rank, Cond.selects RX5 yX5_rank yX5_rank, Cond.code yX5_rank cX5_rank 5 (some .int), Cond.methodLink RL 47 yX4_begin, Cond.instanceMethod yX4_begin, Cond.selects RX4 yX4_begin yX4_begin, Cond.code yX4_begin cX4_begin 1 (some .int), Cond.methodLink RX4 108 yX0_oftenBegun, Cond.instanceMethod yX0_oftenBegun, Cond.selects RX0 yX0_oftenBegun yX0_oftenBegun, Cond.code yX0_oftenBegun cX0_oftenBegun 5 (some .int), Cond.methodLink RX0 84 yX3_begins, Cond.static yX3_begins, Cond.code yX3_begins cX3_begins 4 (some .boolean), Cond.methodLink RX3 19 yX3_sharedBy, Cond.methodLink RX3 23 yX3_lengthOf]
def wsL_law_r15 : List Cond := [Cond.methodLink RL 50 yX5_begin, Cond.instanceMethod yX5_begin, Cond.selects RX5 yX5_begin yX5_begin, Cond.code yX5_begin cX5_begin 1 (some .int), Cond.methodLink RX5 114 yX5_beginOf, Cond.instanceMethod yX5_beginOf, Cond.selects RX5 yX5_beginOf yX5_beginOf, Cond.code yX5_beginOf cX5_beginOf 5 (some .int), Cond.methodLink RL 51 yX4_depth, Cond.instanceMethod yX4_depth, Cond.selects RX4 yX4_depth yX4_depth, Cond.code yX4_depth cX4_depth 1 (some .int), Cond.methodLink RL 54 yX5_depth, Cond.instanceMethod yX5_depth, Cond.selects RX5 yX5_depth yX5_depth, Cond.code yX5_depth cX5_depth 1 (some .int), Cond.methodLink RX5 117 yX5_depthOf, Cond.instanceMethod yX5_depthOf, Cond.selects RX5 yX5_depthOf yX5_depthOf, Cond.code yX5_depthOf cX5_depthOf 5 (some .int), Cond.methodLink RL 55 yX4_container, Cond.instanceMethod yX4_container, Cond.selects RX4 yX4_container yX4_container, Cond.code yX4_container cX4_container 4 (some .int)]
def wsL_law_r16 : List Cond := [Cond.methodLink RX4 111 yX4_isHalf, Cond.static yX4_isHalf, Cond.code yX4_isHalf cX4_isHalf 1 (some .boolean), Cond.methodLink RX4 114 yX0_sharing, Cond.methodLink RL 58 yX5_container, Cond.instanceMethod yX5_container, Cond.selects RX5 yX5_container yX5_container, Cond.code yX5_container cX5_container 4 (some .int), Cond.methodLink RL 59 yX4_telling, Cond.instanceMethod yX4_telling, Cond.selects RX4 yX4_telling yX4_telling, Cond.code yX4_telling cX4_telling 1 (some .int), Cond.methodLink RX4 118 yX0_mostSharedWithOthers, Cond.instanceMethod yX0_mostSharedWithOthers, Cond.selects RX0 yX0_mostSharedWithOthers yX0_mostSharedWithOthers, Cond.code yX0_mostSharedWithOthers cX0_mostSharedWithOthers 5 (some .int), Cond.methodLink RL 62 yX5_telling, Cond.instanceMethod yX5_telling, Cond.selects RX5 yX5_telling yX5_telling, Cond.code yX5_telling cX5_telling 4 (some .int), Cond.methodLink RL 63 yX4_longest, Cond.instanceMethod yX4_longest, Cond.selects RX4 yX4_longest yX4_longest, Cond.code yX4_longest cX4_longest 2 (some .int)]
def wsL_law_r17 : List Cond := [Cond.methodLink RX4 121 yX0_longestIn, Cond.instanceMethod yX0_longestIn, Cond.selects RX0 yX0_longestIn yX0_longestIn, Cond.code yX0_longestIn cX0_longestIn 5 (some .int), Cond.methodLink RL 66 yX5_longest, Cond.instanceMethod yX5_longest, Cond.selects RX5 yX5_longest yX5_longest, Cond.code yX5_longest cX5_longest 3 (some .int), Cond.methodLink RL 67 yX4_like, Cond.instanceMethod yX4_like, Cond.selects RX4 yX4_like yX4_like, Cond.code yX4_like cX4_like 2 (some .int), Cond.methodLink RX4 124 yX0_alike, Cond.instanceMethod yX0_alike, Cond.selects RX0 yX0_alike yX0_alike, Cond.code yX0_alike cX0_alike 7 (some .int), Cond.methodLink RX0 88 yX3_differences, Cond.static yX3_differences, Cond.code yX3_differences cX3_differences 6 (some .int), Cond.methodLink RL 70 yX5_like, Cond.instanceMethod yX5_like, Cond.selects RX5 yX5_like yX5_like, Cond.code yX5_like cX5_like 6 (some .int), Cond.methodLink RL 71 yX4_odds]
def wsL_law_r18 : List Cond := [Cond.instanceMethod yX4_odds, Cond.selects RX4 yX4_odds yX4_odds, Cond.code yX4_odds cX4_odds 5 (some .int), Cond.methodLink RX4 127 yX4_commonDivisor, Cond.static yX4_commonDivisor, Cond.code yX4_commonDivisor cX4_commonDivisor 6 (some .int), Cond.methodLink RL 74 yX5_odds, Cond.instanceMethod yX5_odds, Cond.selects RX5 yX5_odds yX5_odds, Cond.code yX5_odds cX5_odds 5 (some .int), Cond.methodLink RX5 120 yX5_all, Cond.instanceMethod yX5_all, Cond.selects RX5 yX5_all yX5_all, Cond.code yX5_all cX5_all 3 (some .int), Cond.methodLink RX5 124 yX5_gcd, Cond.static yX5_gcd, Cond.code yX5_gcd cX5_gcd 5 (some .int), Cond.methodLink RL 75 yX4_kth, Cond.instanceMethod yX4_kth, Cond.selects RX4 yX4_kth yX4_kth, Cond.code yX4_kth cX4_kth 3 (some .int), Cond.methodLink RX4 131 yX4_isAsked, Cond.static yX4_isAsked, Cond.code yX4_isAsked cX4_isAsked 1 (some .boolean)]
def wsL_law_r19 : List Cond := [Cond.methodLink RX4 134 yX0_holderOf, Cond.instanceMethod yX0_holderOf, Cond.selects RX0 yX0_holderOf yX0_holderOf, Cond.code yX0_holderOf cX0_holderOf 4 (some .int), Cond.methodLink RX4 137 yX4_told, Cond.instanceMethod yX4_told, Cond.selects RX4 yX4_told yX4_told, Cond.code yX4_told cX4_told 6 (some .int), Cond.methodLink RX4 148 yX0_wordAt, Cond.methodLink RX4 189 yX3_letterAt, Cond.methodLink RL 79 yX5_kth, Cond.instanceMethod yX5_kth, Cond.selects RX5 yX5_kth yX5_kth, Cond.code yX5_kth cX5_kth 5 (some .int), Cond.methodLink RX5 128 yX5_isAt, Cond.static yX5_isAt, Cond.code yX5_isAt cX5_isAt 1 (some .boolean), Cond.methodLink RX5 132 yX5_tells, Cond.instanceMethod yX5_tells, Cond.selects RX5 yX5_tells yX5_tells, Cond.code yX5_tells cX5_tells 3 (some .int), Cond.methodLink RL 80 yX4_unlike, Cond.instanceMethod yX4_unlike, Cond.selects RX4 yX4_unlike yX4_unlike]
def wsL_law_r20 : List Cond := [Cond.code yX4_unlike cX4_unlike 3 (some .int), Cond.methodLink RL 83 yX5_unlike, Cond.instanceMethod yX5_unlike, Cond.selects RX5 yX5_unlike yX5_unlike, Cond.code yX5_unlike cX5_unlike 3 (some .int), Cond.methodLink RL 84 yX4_next, Cond.instanceMethod yX4_next, Cond.selects RX4 yX4_next yX4_next, Cond.code yX4_next cX4_next 3 (some .int), Cond.methodLink RL 87 yX5_next, Cond.instanceMethod yX5_next, Cond.selects RX5 yX5_next yX5_next, Cond.code yX5_next cX5_next 3 (some .int), Cond.methodLink RL 88 yX4_top, Cond.instanceMethod yX4_top, Cond.selects RX4 yX4_top yX4_top, Cond.code yX4_top cX4_top 3 (some .int), Cond.methodLink RX4 140 yX0_frequent, Cond.instanceMethod yX0_frequent, Cond.selects RX0 yX0_frequent yX0_frequent, Cond.code yX0_frequent cX0_frequent 5 (some .int), Cond.methodLink RX0 91 yX0_moreFrequent, Cond.instanceMethod yX0_moreFrequent, Cond.selects RX0 yX0_moreFrequent yX0_moreFrequent]
def wsL_law_r21 : List Cond := [Cond.code yX0_moreFrequent cX0_moreFrequent 7 (some .int), Cond.methodLink RL 91 yX5_top, Cond.instanceMethod yX5_top, Cond.selects RX5 yX5_top yX5_top, Cond.code yX5_top cX5_top 6 (some .int), Cond.methodLink RL 92 yX4_sees, Cond.instanceMethod yX4_sees, Cond.selects RX4 yX4_sees yX4_sees, Cond.code yX4_sees cX4_sees 4 (some .int), Cond.methodLink RX4 143 yX2_size, Cond.instanceMethod yX2_size, Cond.selects RX2 yX2_size yX2_size, Cond.code yX2_size cX2_size 1 (some .int), Cond.methodLink RX4 144 yX2_push, Cond.instanceMethod yX2_push, Cond.selects RX2 yX2_push yX2_push, Cond.code yX2_push cX2_push 4 none, Cond.methodLink RL 96 yX5_sees, Cond.instanceMethod yX5_sees, Cond.selects RX5 yX5_sees yX5_sees, Cond.code yX5_sees cX5_sees 4 (some .int), Cond.fieldLink RX5 135 "BurstWordsModel" "seenMany" "I", Cond.methodLink RL 97 yX4_forget, Cond.instanceMethod yX4_forget]
def wsL_law_r22 : List Cond := [Cond.selects RX4 yX4_forget yX4_forget, Cond.code yX4_forget cX4_forget 2 (some .int), Cond.methodLink RX4 147 yX2_empty, Cond.instanceMethod yX2_empty, Cond.selects RX2 yX2_empty yX2_empty, Cond.code yX2_empty cX2_empty 1 none, Cond.methodLink RL 100 yX5_forget, Cond.instanceMethod yX5_forget, Cond.selects RX5 yX5_forget yX5_forget, Cond.code yX5_forget cX5_forget 2 (some .int), Cond.methodLink RL 101 yX4_fit, Cond.instanceMethod yX4_fit, Cond.selects RX4 yX4_fit yX4_fit, Cond.code yX4_fit cX4_fit 4 (some .int), Cond.methodLink RX4 152 yX2_allow, Cond.instanceMethod yX2_allow, Cond.selects RX2 yX2_allow yX2_allow, Cond.code yX2_allow cX2_allow 5 (some .boolean), Cond.methodLink RX2 26 yX3_letterAt, Cond.methodLink RL 104 yX5_fit, Cond.instanceMethod yX5_fit, Cond.selects RX5 yX5_fit yX5_fit, Cond.code yX5_fit cX5_fit 3 (some .int), Cond.methodLink RX5 138 yX5_fits]
def wsL_law_r23 : List Cond := [Cond.instanceMethod yX5_fits, Cond.selects RX5 yX5_fits yX5_fits, Cond.code yX5_fits cX5_fits 4 (some .boolean), Cond.methodLink RX5 141 yX5_fitMany, Cond.instanceMethod yX5_fitMany, Cond.selects RX5 yX5_fitMany yX5_fitMany, Cond.code yX5_fitMany cX5_fitMany 3 (some .int), Cond.methodLink RL 105 yX4_ask, Cond.instanceMethod yX4_ask, Cond.selects RX4 yX4_ask yX4_ask, Cond.code yX4_ask cX4_ask 6 (some .int), Cond.methodLink RX4 159 Lib.Math.max.name, Cond.methodLink RX4 156 yX4_tallyFitting, Cond.instanceMethod yX4_tallyFitting, Cond.selects RX4 yX4_tallyFitting yX4_tallyFitting, Cond.code yX4_tallyFitting cX4_tallyFitting 5 (some .int), Cond.methodLink RX4 198 yJ7_fill_53178, Cond.static yJ7_fill_53178, Cond.initialized RJ7, Cond.code yJ7_fill_53178 cJ7_fill_53178 4 none, Cond.methodLink RX4 204 yX4_tallyLetters, Cond.instanceMethod yX4_tallyLetters, Cond.selects RX4 yX4_tallyLetters yX4_tallyLetters, Cond.code yX4_tallyLetters cX4_tallyLetters 5 none]
def wsL_law_r24 : List Cond := [Cond.methodLink RL 108 yX5_ask, Cond.instanceMethod yX5_ask, Cond.selects RX5 yX5_ask yX5_ask, Cond.code yX5_ask cX5_ask 8 (some .int), Cond.methodLink RL 109 yX4_count, Cond.instanceMethod yX4_count, Cond.selects RX4 yX4_count yX4_count, Cond.code yX4_count cX4_count 2 (some .int), Cond.methodLink RX4 164 yX0_nodes, Cond.instanceMethod yX0_nodes, Cond.selects RX0 yX0_nodes yX0_nodes, Cond.code yX0_nodes cX0_nodes 3 (some .int), Cond.methodLink RX0 94 yX0_sharedAhead, Cond.instanceMethod yX0_sharedAhead, Cond.selects RX0 yX0_sharedAhead yX0_sharedAhead, Cond.code yX0_sharedAhead cX0_sharedAhead 2 (some .int), Cond.methodLink RX4 167 yX0_containers, Cond.instanceMethod yX0_containers, Cond.selects RX0 yX0_containers yX0_containers, Cond.code yX0_containers cX0_containers 3 (some .int), Cond.methodLink RX0 100 yX0_opensContainer, Cond.instanceMethod yX0_opensContainer, Cond.selects RX0 yX0_opensContainer yX0_opensContainer, Cond.code yX0_opensContainer cX0_opensContainer 2 (some .boolean)]
def wsL_law_r25 : List Cond := [Cond.methodLink RX0 97 yX0_isContained, Cond.instanceMethod yX0_isContained, Cond.selects RX0 yX0_isContained yX0_isContained, Cond.code yX0_isContained cX0_isContained 2 (some .boolean), Cond.methodLink RX4 170 yX0_fullest, Cond.instanceMethod yX0_fullest, Cond.selects RX0 yX0_fullest yX0_fullest, Cond.code yX0_fullest cX0_fullest 4 (some .int), Cond.methodLink RX4 173 yX0_deepest, Cond.instanceMethod yX0_deepest, Cond.selects RX0 yX0_deepest yX0_deepest, Cond.code yX0_deepest cX0_deepest 3 (some .int), Cond.methodLink RX4 176 yX0_lettersKept, Cond.instanceMethod yX0_lettersKept, Cond.selects RX0 yX0_lettersKept yX0_lettersKept, Cond.code yX0_lettersKept cX0_lettersKept 3 (some .int), Cond.methodLink RX4 179 yX0_mostShared, Cond.instanceMethod yX0_mostShared, Cond.selects RX0 yX0_mostShared yX0_mostShared, Cond.code yX0_mostShared cX0_mostShared 3 (some .int), Cond.methodLink RX4 182 yX0_pairsSharing, Cond.instanceMethod yX0_pairsSharing, Cond.selects RX0 yX0_pairsSharing yX0_pairsSharing, Cond.code yX0_pairsSharing cX0_pairsSharing 4 (some .int)]
def wsL_law_r26 : List Cond := [Cond.methodLink RL 112 yX5_count, Cond.instanceMethod yX5_count, Cond.selects RX5 yX5_count yX5_count, Cond.code yX5_count cX5_count 2 (some .int), Cond.methodLink RX5 148 yX5_containers, Cond.instanceMethod yX5_containers, Cond.selects RX5 yX5_containers yX5_containers, Cond.code yX5_containers cX5_containers 5 (some .int), Cond.methodLink RX5 151 yX5_fullest, Cond.instanceMethod yX5_fullest, Cond.selects RX5 yX5_fullest yX5_fullest, Cond.code yX5_fullest cX5_fullest 5 (some .int), Cond.methodLink RX5 154 yX5_deepest, Cond.instanceMethod yX5_deepest, Cond.selects RX5 yX5_deepest yX5_deepest, Cond.code yX5_deepest cX5_deepest 3 (some .int), Cond.methodLink RX5 157 yX5_letters, Cond.instanceMethod yX5_letters, Cond.selects RX5 yX5_letters yX5_letters, Cond.code yX5_letters cX5_letters 4 (some .int), Cond.methodLink RX5 160 yX5_shared, Cond.instanceMethod yX5_shared, Cond.selects RX5 yX5_shared yX5_shared, Cond.code yX5_shared cX5_shared 6 (some .int)]
def wsL_law_r27 : List Cond := [Cond.methodLink RX5 144 yX5_sharedBy, Cond.instanceMethod yX5_sharedBy, Cond.selects RX5 yX5_sharedBy yX5_sharedBy, Cond.code yX5_sharedBy cX5_sharedBy 3 (some .int), Cond.methodLink RL 113 yX4_digest, Cond.instanceMethod yX4_digest, Cond.selects RX4 yX4_digest yX4_digest, Cond.code yX4_digest cX4_digest 8 (some .long), Cond.constantLong RX4 185 (17), Cond.constantLong RX4 187 (31), Cond.methodLink RX4 192 yX0_oftenAt, Cond.methodLink RX4 195 yX0_depthAt, Cond.methodLink RL 117 yX5_digest, Cond.instanceMethod yX5_digest, Cond.selects RX5 yX5_digest yX5_digest, Cond.code yX5_digest cX5_digest 5 (some .long), Cond.constantLong RX5 164 (17), Cond.constantLong RX5 166 (31), Cond.constantLong RX5 168 (97)]
def wsL_law : List Cond := (wsL_law_r1 ++ (wsL_law_r2 ++ (wsL_law_r3 ++ (wsL_law_r4 ++ (wsL_law_r5 ++ (wsL_law_r6 ++ (wsL_law_r7 ++ (wsL_law_r8 ++ (wsL_law_r9 ++ (wsL_law_r10 ++ (wsL_law_r11 ++ (wsL_law_r12 ++ (wsL_law_r13 ++ (wsL_law_r14 ++ (wsL_law_r15 ++ (wsL_law_r16 ++ (wsL_law_r17 ++ (wsL_law_r18 ++ (wsL_law_r19 ++ (wsL_law_r20 ++ (wsL_law_r21 ++ (wsL_law_r22 ++ (wsL_law_r23 ++ (wsL_law_r24 ++ (wsL_law_r25 ++ (wsL_law_r26 ++ wsL_law_r27)))))))))))))))))))))))))) ++ wsX40 ++ wsX50 ++ wsX00 ++ wsX10 ++ wsX20 ++ ([] : List Cond)
abbrev vwCl : List vw_C := [(RX0, TX0, 4), (RX1, TX1, 4), (RX2, TX2, 4), (RX4, TX4, 6), (RX5, TX5, 16)]
end
section
theorem dX0_init_0 : decode cX0_init 0 = .ok (.aload_n 0, 1) := by decide +kernel
theorem dX0_init_1 : decode cX0_init 1 = .ok (.invokespecial 3, 3) := by decide +kernel
theorem dX0_init_4 : decode cX0_init 4 = .ok (.aload_n 0, 1) := by decide +kernel
theorem dX0_init_5 : decode cX0_init 5 = .ok (.bipush 40, 2) := by decide +kernel
theorem dX0_init_7 : decode cX0_init 7 = .ok (.newarray .long, 2) := by decide +kernel
theorem dX0_init_9 : decode cX0_init 9 = .ok (.putfield 9, 3) := by decide +kernel
theorem dX0_init_12 : decode cX0_init 12 = .ok (.aload_n 0, 1) := by decide +kernel
theorem dX0_init_13 : decode cX0_init 13 = .ok (.bipush 40, 2) := by decide +kernel
theorem dX0_init_15 : decode cX0_init 15 = .ok (.newarray .int, 2) := by decide +kernel
theorem dX0_init_17 : decode cX0_init 17 = .ok (.putfield 15, 3) := by decide +kernel
theorem dX0_init_20 : decode cX0_init 20 = .ok (.aload_n 0, 1) := by decide +kernel
theorem dX0_init_21 : decode cX0_init 21 = .ok (.bipush 40, 2) := by decide +kernel
theorem dX0_init_23 : decode cX0_init 23 = .ok (.newarray .int, 2) := by decide +kernel
theorem dX0_init_25 : decode cX0_init 25 = .ok (.putfield 19, 3) := by decide +kernel
theorem dX0_init_28 : decode cX0_init 28 = .ok (.aload_n 0, 1) := by decide +kernel
theorem dX0_init_29 : decode cX0_init 29 = .ok (.iconst 0, 1) := by decide +kernel
theorem dX0_init_30 : decode cX0_init 30 = .ok (.putfield 22, 3) := by decide +kernel
theorem dX0_init_33 : decode cX0_init 33 = .ok (.return_, 1) := by decide +kernel
theorem dX0_size_0 : decode cX0_size 0 = .ok (.aload_n 0, 1) := by decide +kernel
theorem dX0_size_1 : decode cX0_size 1 = .ok (.getfield 22, 3) := by decide +kernel
theorem dX0_size_4 : decode cX0_size 4 = .ok (.ireturn, 1) := by decide +kernel
theorem dX0_has_0 : decode cX0_has 0 = .ok (.iload_n 1, 1) := by decide +kernel
theorem dX0_has_1 : decode cX0_has 1 = .ok (.ifCond .lt 21, 3) := by decide +kernel
theorem dX0_has_4 : decode cX0_has 4 = .ok (.iload_n 1, 1) := by decide +kernel
theorem dX0_has_5 : decode cX0_has 5 = .ok (.aload_n 0, 1) := by decide +kernel
theorem dX0_has_6 : decode cX0_has 6 = .ok (.getfield 22, 3) := by decide +kernel
theorem dX0_has_9 : decode cX0_has 9 = .ok (.if_icmp .ge 13, 3) := by decide +kernel
theorem dX0_has_12 : decode cX0_has 12 = .ok (.iload_n 1, 1) := by decide +kernel
theorem dX0_has_13 : decode cX0_has 13 = .ok (.bipush 40, 2) := by decide +kernel
theorem dX0_has_15 : decode cX0_has 15 = .ok (.if_icmp .ge 7, 3) := by decide +kernel
theorem dX0_has_18 : decode cX0_has 18 = .ok (.iconst 1, 1) := by decide +kernel
theorem dX0_has_19 : decode cX0_has 19 = .ok (.goto 4, 3) := by decide +kernel
theorem dX0_has_22 : decode cX0_has 22 = .ok (.iconst 0, 1) := by decide +kernel
theorem dX0_has_23 : decode cX0_has 23 = .ok (.ireturn, 1) := by decide +kernel
set_option maxRecDepth 20000 in
theorem ggX0_wordAt_X0_has : GoodIn wsX0_wordAt wsX0_has := goodIn_r _ [6, 7, 8, 9, 10, 11] (by decide +kernel) (by decide +kernel)
set_option maxRecDepth 20000 in
theorem gX0_wordAt_X0_has : GoodIn wsX0_wordAt (wsV RX0 26 RX0 yX0_has wsX0_has) := goodIn_app (goodIn_of _ (by decide +kernel)) ggX0_wordAt_X0_has
theorem dX0_wordAt_0 : decode cX0_wordAt 0 = .ok (.aload_n 0, 1) := by decide +kernel
theorem dX0_wordAt_1 : decode cX0_wordAt 1 = .ok (.iload_n 1, 1) := by decide +kernel
theorem dX0_wordAt_2 : decode cX0_wordAt 2 = .ok (.invokevirtual 26, 3) := by decide +kernel
theorem dX0_wordAt_5 : decode cX0_wordAt 5 = .ok (.ifCond .eq 12, 3) := by decide +kernel
theorem dX0_wordAt_8 : decode cX0_wordAt 8 = .ok (.aload_n 0, 1) := by decide +kernel
theorem dX0_wordAt_9 : decode cX0_wordAt 9 = .ok (.getfield 9, 3) := by decide +kernel
theorem dX0_wordAt_12 : decode cX0_wordAt 12 = .ok (.iload_n 1, 1) := by decide +kernel
theorem dX0_wordAt_13 : decode cX0_wordAt 13 = .ok (.laload, 1) := by decide +kernel
theorem dX0_wordAt_14 : decode cX0_wordAt 14 = .ok (.goto 4, 3) := by decide +kernel
theorem dX0_wordAt_17 : decode cX0_wordAt 17 = .ok (.lconst 0, 1) := by decide +kernel
theorem dX0_wordAt_18 : decode cX0_wordAt 18 = .ok (.lreturn, 1) := by decide +kernel
set_option maxRecDepth 20000 in
theorem ggX0_oftenAt_X0_has : GoodIn wsX0_oftenAt wsX0_has := goodIn_r _ [6, 7, 8, 9, 10, 11] (by decide +kernel) (by decide +kernel)
set_option maxRecDepth 20000 in
theorem gX0_oftenAt_X0_has : GoodIn wsX0_oftenAt (wsV RX0 26 RX0 yX0_has wsX0_has) := goodIn_app (goodIn_of _ (by decide +kernel)) ggX0_oftenAt_X0_has
theorem dX0_oftenAt_0 : decode cX0_oftenAt 0 = .ok (.aload_n 0, 1) := by decide +kernel
theorem dX0_oftenAt_1 : decode cX0_oftenAt 1 = .ok (.iload_n 1, 1) := by decide +kernel
theorem dX0_oftenAt_2 : decode cX0_oftenAt 2 = .ok (.invokevirtual 26, 3) := by decide +kernel
theorem dX0_oftenAt_5 : decode cX0_oftenAt 5 = .ok (.ifCond .eq 12, 3) := by decide +kernel
theorem dX0_oftenAt_8 : decode cX0_oftenAt 8 = .ok (.aload_n 0, 1) := by decide +kernel
theorem dX0_oftenAt_9 : decode cX0_oftenAt 9 = .ok (.getfield 15, 3) := by decide +kernel
theorem dX0_oftenAt_12 : decode cX0_oftenAt 12 = .ok (.iload_n 1, 1) := by decide +kernel
theorem dX0_oftenAt_13 : decode cX0_oftenAt 13 = .ok (.iaload, 1) := by decide +kernel
theorem dX0_oftenAt_14 : decode cX0_oftenAt 14 = .ok (.goto 4, 3) := by decide +kernel
theorem dX0_oftenAt_17 : decode cX0_oftenAt 17 = .ok (.iconst 0, 1) := by decide +kernel
theorem dX0_oftenAt_18 : decode cX0_oftenAt 18 = .ok (.ireturn, 1) := by decide +kernel
set_option maxRecDepth 20000 in
theorem ggX0_depthAt_X0_has : GoodIn wsX0_depthAt wsX0_has := goodIn_r _ [6, 7, 8, 9, 10, 11] (by decide +kernel) (by decide +kernel)
set_option maxRecDepth 20000 in
theorem gX0_depthAt_X0_has : GoodIn wsX0_depthAt (wsV RX0 26 RX0 yX0_has wsX0_has) := goodIn_app (goodIn_of _ (by decide +kernel)) ggX0_depthAt_X0_has
theorem dX0_depthAt_0 : decode cX0_depthAt 0 = .ok (.aload_n 0, 1) := by decide +kernel
theorem dX0_depthAt_1 : decode cX0_depthAt 1 = .ok (.iload_n 1, 1) := by decide +kernel
theorem dX0_depthAt_2 : decode cX0_depthAt 2 = .ok (.invokevirtual 26, 3) := by decide +kernel
theorem dX0_depthAt_5 : decode cX0_depthAt 5 = .ok (.ifCond .eq 12, 3) := by decide +kernel
theorem dX0_depthAt_8 : decode cX0_depthAt 8 = .ok (.aload_n 0, 1) := by decide +kernel
theorem dX0_depthAt_9 : decode cX0_depthAt 9 = .ok (.getfield 19, 3) := by decide +kernel
theorem dX0_depthAt_12 : decode cX0_depthAt 12 = .ok (.iload_n 1, 1) := by decide +kernel
theorem dX0_depthAt_13 : decode cX0_depthAt 13 = .ok (.iaload, 1) := by decide +kernel
theorem dX0_depthAt_14 : decode cX0_depthAt 14 = .ok (.goto 4, 3) := by decide +kernel
theorem dX0_depthAt_17 : decode cX0_depthAt 17 = .ok (.iconst 0, 1) := by decide +kernel
theorem dX0_depthAt_18 : decode cX0_depthAt 18 = .ok (.ireturn, 1) := by decide +kernel
set_option maxRecDepth 20000 in
theorem ggX0_placeOf_X0_wordAt : GoodIn wsX0_placeOf wsX0_wordAt := goodIn_r _ [6, 7, 8, 9, 10, 5, 11, 1, 12, 13, 14, 15] (by decide +kernel) (by decide +kernel)
set_option maxRecDepth 20000 in
theorem gX0_placeOf_X0_wordAt : GoodIn wsX0_placeOf (wsV RX0 32 RX0 yX0_wordAt wsX0_wordAt) := goodIn_app (goodIn_of _ (by decide +kernel)) ggX0_placeOf_X0_wordAt
theorem dX0_placeOf_0 : decode cX0_placeOf 0 = .ok (.iconst 0, 1) := by decide +kernel
theorem dX0_placeOf_1 : decode cX0_placeOf 1 = .ok (.istore_n 3, 1) := by decide +kernel
theorem dX0_placeOf_2 : decode cX0_placeOf 2 = .ok (.iload_n 3, 1) := by decide +kernel
theorem dX0_placeOf_3 : decode cX0_placeOf 3 = .ok (.aload_n 0, 1) := by decide +kernel
theorem dX0_placeOf_4 : decode cX0_placeOf 4 = .ok (.getfield 22, 3) := by decide +kernel
theorem dX0_placeOf_7 : decode cX0_placeOf 7 = .ok (.if_icmp .ge 19, 3) := by decide +kernel
theorem dX0_placeOf_10 : decode cX0_placeOf 10 = .ok (.aload_n 0, 1) := by decide +kernel
theorem dX0_placeOf_11 : decode cX0_placeOf 11 = .ok (.iload_n 3, 1) := by decide +kernel
theorem dX0_placeOf_12 : decode cX0_placeOf 12 = .ok (.invokevirtual 32, 3) := by decide +kernel
theorem dX0_placeOf_15 : decode cX0_placeOf 15 = .ok (.lload_n 1, 1) := by decide +kernel
theorem dX0_placeOf_16 : decode cX0_placeOf 16 = .ok (.lcmp, 1) := by decide +kernel
theorem dX0_placeOf_17 : decode cX0_placeOf 17 = .ok (.ifCond .ge 9, 3) := by decide +kernel
theorem dX0_placeOf_20 : decode cX0_placeOf 20 = .ok (.iinc 3 1, 3) := by decide +kernel
theorem dX0_placeOf_23 : decode cX0_placeOf 23 = .ok (.goto (-21), 3) := by decide +kernel
theorem dX0_placeOf_26 : decode cX0_placeOf 26 = .ok (.iload_n 3, 1) := by decide +kernel
theorem dX0_placeOf_27 : decode cX0_placeOf 27 = .ok (.ireturn, 1) := by decide +kernel
set_option maxRecDepth 20000 in
theorem ggX0_oftenOf_X0_placeOf : GoodIn wsX0_oftenOf wsX0_placeOf := goodIn_r _ [5, 6, 7, 8, 9, 4, 10, 11, 12, 13, 14, 15, 21, 22, 23, 24] (by decide +kernel) (by decide +kernel)
set_option maxRecDepth 20000 in
theorem gX0_oftenOf_X0_placeOf : GoodIn wsX0_oftenOf (wsV RX0 36 RX0 yX0_placeOf wsX0_placeOf) := goodIn_app (goodIn_of _ (by decide +kernel)) ggX0_oftenOf_X0_placeOf
set_option maxRecDepth 20000 in
theorem ggX0_oftenOf_X0_wordAt : GoodIn wsX0_oftenOf wsX0_wordAt := goodIn_r _ [10, 11, 12, 13, 14, 4, 15, 6, 21, 22, 23, 24] (by decide +kernel) (by decide +kernel)
set_option maxRecDepth 20000 in
theorem gX0_oftenOf_X0_wordAt : GoodIn wsX0_oftenOf (wsV RX0 32 RX0 yX0_wordAt wsX0_wordAt) := goodIn_app (goodIn_of _ (by decide +kernel)) ggX0_oftenOf_X0_wordAt
set_option maxRecDepth 20000 in
theorem ggX0_oftenOf_X0_oftenAt : GoodIn wsX0_oftenOf wsX0_oftenAt := goodIn_r _ [19, 20, 12, 13, 14, 4, 15, 6, 21, 22, 23, 24] (by decide +kernel) (by decide +kernel)
set_option maxRecDepth 20000 in
theorem gX0_oftenOf_X0_oftenAt : GoodIn wsX0_oftenOf (wsV RX0 40 RX0 yX0_oftenAt wsX0_oftenAt) := goodIn_app (goodIn_of _ (by decide +kernel)) ggX0_oftenOf_X0_oftenAt
theorem dX0_oftenOf_0 : decode cX0_oftenOf 0 = .ok (.aload_n 0, 1) := by decide +kernel
theorem dX0_oftenOf_1 : decode cX0_oftenOf 1 = .ok (.lload_n 1, 1) := by decide +kernel
theorem dX0_oftenOf_2 : decode cX0_oftenOf 2 = .ok (.invokevirtual 36, 3) := by decide +kernel
theorem dX0_oftenOf_5 : decode cX0_oftenOf 5 = .ok (.istore_n 3, 1) := by decide +kernel
theorem dX0_oftenOf_6 : decode cX0_oftenOf 6 = .ok (.aload_n 0, 1) := by decide +kernel
theorem dX0_oftenOf_7 : decode cX0_oftenOf 7 = .ok (.iload_n 3, 1) := by decide +kernel
theorem dX0_oftenOf_8 : decode cX0_oftenOf 8 = .ok (.invokevirtual 32, 3) := by decide +kernel
theorem dX0_oftenOf_11 : decode cX0_oftenOf 11 = .ok (.lload_n 1, 1) := by decide +kernel
theorem dX0_oftenOf_12 : decode cX0_oftenOf 12 = .ok (.lcmp, 1) := by decide +kernel
theorem dX0_oftenOf_13 : decode cX0_oftenOf 13 = .ok (.ifCond .ne 11, 3) := by decide +kernel
theorem dX0_oftenOf_16 : decode cX0_oftenOf 16 = .ok (.aload_n 0, 1) := by decide +kernel
theorem dX0_oftenOf_17 : decode cX0_oftenOf 17 = .ok (.iload_n 3, 1) := by decide +kernel
theorem dX0_oftenOf_18 : decode cX0_oftenOf 18 = .ok (.invokevirtual 40, 3) := by decide +kernel
theorem dX0_oftenOf_21 : decode cX0_oftenOf 21 = .ok (.goto 4, 3) := by decide +kernel
theorem dX0_oftenOf_24 : decode cX0_oftenOf 24 = .ok (.iconst 0, 1) := by decide +kernel
theorem dX0_oftenOf_25 : decode cX0_oftenOf 25 = .ok (.ireturn, 1) := by decide +kernel
set_option maxRecDepth 20000 in
theorem ggX0_put_X0_placeOf : GoodIn wsX0_put wsX0_placeOf := goodIn_r _ [7, 8, 9, 10, 11, 6, 12, 1, 13, 14, 15, 16, 55, 56, 57, 58] (by decide +kernel) (by decide +kernel)
set_option maxRecDepth 20000 in
theorem gX0_put_X0_placeOf : GoodIn wsX0_put (wsV RX0 36 RX0 yX0_placeOf wsX0_placeOf) := goodIn_app (goodIn_of _ (by decide +kernel)) ggX0_put_X0_placeOf
set_option maxRecDepth 20000 in
theorem ggX0_put_X0_has : GoodIn wsX0_put wsX0_has := goodIn_r _ [16, 8, 55, 56, 57, 58] (by decide +kernel) (by decide +kernel)
set_option maxRecDepth 20000 in
theorem gX0_put_X0_has : GoodIn wsX0_put (wsV RX0 26 RX0 yX0_has wsX0_has) := goodIn_app (goodIn_of _ (by decide +kernel)) ggX0_put_X0_has
set_option maxRecDepth 20000 in
theorem ggX0_put_X0_insert : GoodIn wsX0_put wsX0_insert := goodIn_r _ [20, 8, 1, 21, 22, 23, 24, 2, 25, 26, 27, 28, 6, 29, 30, 31, 32, 33, 34, 35, 36, 9, 10, 11, 12, 13, 14, 15, 16, 37, 38, 39, 40, 41, 42, 43, 44, 45, 46, 47, 48, 49, 50, 55, 56, 57, 58] (by decide +kernel) (by decide +kernel)
set_option maxRecDepth 20000 in
theorem gX0_put_X0_insert : GoodIn wsX0_put (wsV RX0 44 RX0 yX0_insert wsX0_insert) := goodIn_app (goodIn_of _ (by decide +kernel)) ggX0_put_X0_insert
set_option maxRecDepth 20000 in
theorem ggX0_put_X0_remove : GoodIn wsX0_put wsX0_remove := goodIn_r _ [54, 8, 1, 21, 22, 23, 24, 2, 25, 13, 14, 15, 6, 16, 55, 56, 57, 58] (by decide +kernel) (by decide +kernel)
set_option maxRecDepth 20000 in
theorem gX0_put_X0_remove : GoodIn wsX0_put (wsV RX0 48 RX0 yX0_remove wsX0_remove) := goodIn_app (goodIn_of _ (by decide +kernel)) ggX0_put_X0_remove
theorem dX0_put_0 : decode cX0_put 0 = .ok (.aload_n 0, 1) := by decide +kernel
theorem dX0_put_1 : decode cX0_put 1 = .ok (.lload_n 1, 1) := by decide +kernel
theorem dX0_put_2 : decode cX0_put 2 = .ok (.invokevirtual 36, 3) := by decide +kernel
theorem dX0_put_5 : decode cX0_put 5 = .ok (.istore 4, 2) := by decide +kernel
theorem dX0_put_7 : decode cX0_put 7 = .ok (.aload_n 0, 1) := by decide +kernel
theorem dX0_put_8 : decode cX0_put 8 = .ok (.iload 4, 2) := by decide +kernel
theorem dX0_put_10 : decode cX0_put 10 = .ok (.invokevirtual 26, 3) := by decide +kernel
theorem dX0_put_13 : decode cX0_put 13 = .ok (.ifCond .eq 19, 3) := by decide +kernel
theorem dX0_put_16 : decode cX0_put 16 = .ok (.aload_n 0, 1) := by decide +kernel
theorem dX0_put_17 : decode cX0_put 17 = .ok (.getfield 9, 3) := by decide +kernel
theorem dX0_put_20 : decode cX0_put 20 = .ok (.iload 4, 2) := by decide +kernel
theorem dX0_put_22 : decode cX0_put 22 = .ok (.laload, 1) := by decide +kernel
theorem dX0_put_23 : decode cX0_put 23 = .ok (.lload_n 1, 1) := by decide +kernel
theorem dX0_put_24 : decode cX0_put 24 = .ok (.lcmp, 1) := by decide +kernel
theorem dX0_put_25 : decode cX0_put 25 = .ok (.ifCond .ne 7, 3) := by decide +kernel
theorem dX0_put_28 : decode cX0_put 28 = .ok (.iconst 1, 1) := by decide +kernel
theorem dX0_put_29 : decode cX0_put 29 = .ok (.goto 4, 3) := by decide +kernel
theorem dX0_put_32 : decode cX0_put 32 = .ok (.iconst 0, 1) := by decide +kernel
theorem dX0_put_33 : decode cX0_put 33 = .ok (.istore 5, 2) := by decide +kernel
theorem dX0_put_35 : decode cX0_put 35 = .ok (.iload 5, 2) := by decide +kernel
theorem dX0_put_37 : decode cX0_put 37 = .ok (.ifCond .ne 18, 3) := by decide +kernel
theorem dX0_put_40 : decode cX0_put 40 = .ok (.iload_n 3, 1) := by decide +kernel
theorem dX0_put_41 : decode cX0_put 41 = .ok (.ifCond .le 14, 3) := by decide +kernel
theorem dX0_put_44 : decode cX0_put 44 = .ok (.aload_n 0, 1) := by decide +kernel
theorem dX0_put_45 : decode cX0_put 45 = .ok (.iload 4, 2) := by decide +kernel
theorem dX0_put_47 : decode cX0_put 47 = .ok (.lload_n 1, 1) := by decide +kernel
theorem dX0_put_48 : decode cX0_put 48 = .ok (.iload_n 3, 1) := by decide +kernel
theorem dX0_put_49 : decode cX0_put 49 = .ok (.invokevirtual 44, 3) := by decide +kernel
theorem dX0_put_52 : decode cX0_put 52 = .ok (.goto 34, 3) := by decide +kernel
theorem dX0_put_55 : decode cX0_put 55 = .ok (.iload 5, 2) := by decide +kernel
theorem dX0_put_57 : decode cX0_put 57 = .ok (.ifCond .eq 18, 3) := by decide +kernel
theorem dX0_put_60 : decode cX0_put 60 = .ok (.iload_n 3, 1) := by decide +kernel
theorem dX0_put_61 : decode cX0_put 61 = .ok (.ifCond .le 14, 3) := by decide +kernel
theorem dX0_put_64 : decode cX0_put 64 = .ok (.aload_n 0, 1) := by decide +kernel
theorem dX0_put_65 : decode cX0_put 65 = .ok (.getfield 15, 3) := by decide +kernel
theorem dX0_put_68 : decode cX0_put 68 = .ok (.iload 4, 2) := by decide +kernel
theorem dX0_put_70 : decode cX0_put 70 = .ok (.iload_n 3, 1) := by decide +kernel
theorem dX0_put_71 : decode cX0_put 71 = .ok (.iastore, 1) := by decide +kernel
theorem dX0_put_72 : decode cX0_put 72 = .ok (.goto 14, 3) := by decide +kernel
theorem dX0_put_75 : decode cX0_put 75 = .ok (.iload 5, 2) := by decide +kernel
theorem dX0_put_77 : decode cX0_put 77 = .ok (.ifCond .eq 9, 3) := by decide +kernel
theorem dX0_put_80 : decode cX0_put 80 = .ok (.aload_n 0, 1) := by decide +kernel
theorem dX0_put_81 : decode cX0_put 81 = .ok (.iload 4, 2) := by decide +kernel
theorem dX0_put_83 : decode cX0_put 83 = .ok (.invokevirtual 48, 3) := by decide +kernel
theorem dX0_put_86 : decode cX0_put 86 = .ok (.return_, 1) := by decide +kernel
set_option maxRecDepth 20000 in
theorem ggX0_insert_X0_depthOf : GoodIn wsX0_insert wsX0_depthOf := goodIn_r _ [13, 1, 14, 15, 16, 17, 18, 19, 20, 21, 22, 23, 12, 24, 2, 25, 26, 27, 28, 29, 30, 31, 32, 33, 34, 35, 36, 37, 38, 39, 40, 41, 42, 8, 43, 44, 45, 46] (by decide +kernel) (by decide +kernel)
set_option maxRecDepth 20000 in
theorem gX0_insert_X0_depthOf : GoodIn wsX0_insert (wsV RX0 52 RX0 yX0_depthOf wsX0_depthOf) := goodIn_app (goodIn_of _ (by decide +kernel)) ggX0_insert_X0_depthOf
theorem dX0_insert_0 : decode cX0_insert 0 = .ok (.iload_n 1, 1) := by decide +kernel
theorem dX0_insert_1 : decode cX0_insert 1 = .ok (.ifCond .lt 20, 3) := by decide +kernel
theorem dX0_insert_4 : decode cX0_insert 4 = .ok (.iload_n 1, 1) := by decide +kernel
theorem dX0_insert_5 : decode cX0_insert 5 = .ok (.aload_n 0, 1) := by decide +kernel
theorem dX0_insert_6 : decode cX0_insert 6 = .ok (.getfield 22, 3) := by decide +kernel
theorem dX0_insert_9 : decode cX0_insert 9 = .ok (.if_icmp .gt 12, 3) := by decide +kernel
theorem dX0_insert_12 : decode cX0_insert 12 = .ok (.aload_n 0, 1) := by decide +kernel
theorem dX0_insert_13 : decode cX0_insert 13 = .ok (.getfield 22, 3) := by decide +kernel
theorem dX0_insert_16 : decode cX0_insert 16 = .ok (.bipush 40, 2) := by decide +kernel
theorem dX0_insert_18 : decode cX0_insert 18 = .ok (.if_icmp .lt 4, 3) := by decide +kernel
theorem dX0_insert_21 : decode cX0_insert 21 = .ok (.return_, 1) := by decide +kernel
theorem dX0_insert_22 : decode cX0_insert 22 = .ok (.aload_n 0, 1) := by decide +kernel
theorem dX0_insert_23 : decode cX0_insert 23 = .ok (.lload_n 2, 1) := by decide +kernel
theorem dX0_insert_24 : decode cX0_insert 24 = .ok (.invokevirtual 52, 3) := by decide +kernel
theorem dX0_insert_27 : decode cX0_insert 27 = .ok (.istore 5, 2) := by decide +kernel
theorem dX0_insert_29 : decode cX0_insert 29 = .ok (.aload_n 0, 1) := by decide +kernel
theorem dX0_insert_30 : decode cX0_insert 30 = .ok (.getfield 22, 3) := by decide +kernel
theorem dX0_insert_33 : decode cX0_insert 33 = .ok (.iload_n 1, 1) := by decide +kernel
theorem dX0_insert_34 : decode cX0_insert 34 = .ok (.isub, 1) := by decide +kernel
theorem dX0_insert_35 : decode cX0_insert 35 = .ok (.istore 6, 2) := by decide +kernel
theorem dX0_insert_37 : decode cX0_insert 37 = .ok (.aload_n 0, 1) := by decide +kernel
theorem dX0_insert_38 : decode cX0_insert 38 = .ok (.getfield 9, 3) := by decide +kernel
theorem dX0_insert_41 : decode cX0_insert 41 = .ok (.iload_n 1, 1) := by decide +kernel
theorem dX0_insert_42 : decode cX0_insert 42 = .ok (.aload_n 0, 1) := by decide +kernel
theorem dX0_insert_43 : decode cX0_insert 43 = .ok (.getfield 9, 3) := by decide +kernel
theorem dX0_insert_46 : decode cX0_insert 46 = .ok (.iload_n 1, 1) := by decide +kernel
theorem dX0_insert_47 : decode cX0_insert 47 = .ok (.iconst 1, 1) := by decide +kernel
theorem dX0_insert_48 : decode cX0_insert 48 = .ok (.iadd, 1) := by decide +kernel
theorem dX0_insert_49 : decode cX0_insert 49 = .ok (.iload 6, 2) := by decide +kernel
theorem dX0_insert_51 : decode cX0_insert 51 = .ok (.invokestatic 55, 3) := by decide +kernel
theorem dX0_insert_54 : decode cX0_insert 54 = .ok (.aload_n 0, 1) := by decide +kernel
theorem dX0_insert_55 : decode cX0_insert 55 = .ok (.getfield 15, 3) := by decide +kernel
theorem dX0_insert_58 : decode cX0_insert 58 = .ok (.iload_n 1, 1) := by decide +kernel
theorem dX0_insert_59 : decode cX0_insert 59 = .ok (.aload_n 0, 1) := by decide +kernel
theorem dX0_insert_60 : decode cX0_insert 60 = .ok (.getfield 15, 3) := by decide +kernel
theorem dX0_insert_63 : decode cX0_insert 63 = .ok (.iload_n 1, 1) := by decide +kernel
theorem dX0_insert_64 : decode cX0_insert 64 = .ok (.iconst 1, 1) := by decide +kernel
theorem dX0_insert_65 : decode cX0_insert 65 = .ok (.iadd, 1) := by decide +kernel
theorem dX0_insert_66 : decode cX0_insert 66 = .ok (.iload 6, 2) := by decide +kernel
theorem dX0_insert_68 : decode cX0_insert 68 = .ok (.invokestatic 55, 3) := by decide +kernel
theorem dX0_insert_71 : decode cX0_insert 71 = .ok (.aload_n 0, 1) := by decide +kernel
theorem dX0_insert_72 : decode cX0_insert 72 = .ok (.getfield 19, 3) := by decide +kernel
theorem dX0_insert_75 : decode cX0_insert 75 = .ok (.iload_n 1, 1) := by decide +kernel
theorem dX0_insert_76 : decode cX0_insert 76 = .ok (.aload_n 0, 1) := by decide +kernel
theorem dX0_insert_77 : decode cX0_insert 77 = .ok (.getfield 19, 3) := by decide +kernel
theorem dX0_insert_80 : decode cX0_insert 80 = .ok (.iload_n 1, 1) := by decide +kernel
theorem dX0_insert_81 : decode cX0_insert 81 = .ok (.iconst 1, 1) := by decide +kernel
theorem dX0_insert_82 : decode cX0_insert 82 = .ok (.iadd, 1) := by decide +kernel
theorem dX0_insert_83 : decode cX0_insert 83 = .ok (.iload 6, 2) := by decide +kernel
theorem dX0_insert_85 : decode cX0_insert 85 = .ok (.invokestatic 55, 3) := by decide +kernel
theorem dX0_insert_88 : decode cX0_insert 88 = .ok (.aload_n 0, 1) := by decide +kernel
theorem dX0_insert_89 : decode cX0_insert 89 = .ok (.getfield 9, 3) := by decide +kernel
theorem dX0_insert_92 : decode cX0_insert 92 = .ok (.iload_n 1, 1) := by decide +kernel
theorem dX0_insert_93 : decode cX0_insert 93 = .ok (.lload_n 2, 1) := by decide +kernel
theorem dX0_insert_94 : decode cX0_insert 94 = .ok (.lastore, 1) := by decide +kernel
theorem dX0_insert_95 : decode cX0_insert 95 = .ok (.aload_n 0, 1) := by decide +kernel
theorem dX0_insert_96 : decode cX0_insert 96 = .ok (.getfield 15, 3) := by decide +kernel
theorem dX0_insert_99 : decode cX0_insert 99 = .ok (.iload_n 1, 1) := by decide +kernel
theorem dX0_insert_100 : decode cX0_insert 100 = .ok (.iload 4, 2) := by decide +kernel
theorem dX0_insert_102 : decode cX0_insert 102 = .ok (.iastore, 1) := by decide +kernel
theorem dX0_insert_103 : decode cX0_insert 103 = .ok (.aload_n 0, 1) := by decide +kernel
theorem dX0_insert_104 : decode cX0_insert 104 = .ok (.getfield 19, 3) := by decide +kernel
theorem dX0_insert_107 : decode cX0_insert 107 = .ok (.iload_n 1, 1) := by decide +kernel
theorem dX0_insert_108 : decode cX0_insert 108 = .ok (.iload 5, 2) := by decide +kernel
theorem dX0_insert_110 : decode cX0_insert 110 = .ok (.iastore, 1) := by decide +kernel
theorem dX0_insert_111 : decode cX0_insert 111 = .ok (.aload_n 0, 1) := by decide +kernel
theorem dX0_insert_112 : decode cX0_insert 112 = .ok (.dup, 1) := by decide +kernel
theorem dX0_insert_113 : decode cX0_insert 113 = .ok (.getfield 22, 3) := by decide +kernel
theorem dX0_insert_116 : decode cX0_insert 116 = .ok (.iconst 1, 1) := by decide +kernel
theorem dX0_insert_117 : decode cX0_insert 117 = .ok (.iadd, 1) := by decide +kernel
theorem dX0_insert_118 : decode cX0_insert 118 = .ok (.putfield 22, 3) := by decide +kernel
theorem dX0_insert_121 : decode cX0_insert 121 = .ok (.return_, 1) := by decide +kernel
set_option maxRecDepth 20000 in
theorem ggX0_remove_X0_has : GoodIn wsX0_remove wsX0_has := goodIn_r _ [13, 1, 14, 15, 16, 17] (by decide +kernel) (by decide +kernel)
set_option maxRecDepth 20000 in
theorem gX0_remove_X0_has : GoodIn wsX0_remove (wsV RX0 26 RX0 yX0_has wsX0_has) := goodIn_app (goodIn_of _ (by decide +kernel)) ggX0_remove_X0_has
theorem dX0_remove_0 : decode cX0_remove 0 = .ok (.aload_n 0, 1) := by decide +kernel
theorem dX0_remove_1 : decode cX0_remove 1 = .ok (.iload_n 1, 1) := by decide +kernel
theorem dX0_remove_2 : decode cX0_remove 2 = .ok (.invokevirtual 26, 3) := by decide +kernel
theorem dX0_remove_5 : decode cX0_remove 5 = .ok (.ifCond .ne 4, 3) := by decide +kernel
theorem dX0_remove_8 : decode cX0_remove 8 = .ok (.return_, 1) := by decide +kernel
theorem dX0_remove_9 : decode cX0_remove 9 = .ok (.aload_n 0, 1) := by decide +kernel
theorem dX0_remove_10 : decode cX0_remove 10 = .ok (.getfield 22, 3) := by decide +kernel
theorem dX0_remove_13 : decode cX0_remove 13 = .ok (.iload_n 1, 1) := by decide +kernel
theorem dX0_remove_14 : decode cX0_remove 14 = .ok (.isub, 1) := by decide +kernel
theorem dX0_remove_15 : decode cX0_remove 15 = .ok (.iconst 1, 1) := by decide +kernel
theorem dX0_remove_16 : decode cX0_remove 16 = .ok (.isub, 1) := by decide +kernel
theorem dX0_remove_17 : decode cX0_remove 17 = .ok (.istore_n 2, 1) := by decide +kernel
theorem dX0_remove_18 : decode cX0_remove 18 = .ok (.aload_n 0, 1) := by decide +kernel
theorem dX0_remove_19 : decode cX0_remove 19 = .ok (.getfield 9, 3) := by decide +kernel
theorem dX0_remove_22 : decode cX0_remove 22 = .ok (.iload_n 1, 1) := by decide +kernel
theorem dX0_remove_23 : decode cX0_remove 23 = .ok (.iconst 1, 1) := by decide +kernel
theorem dX0_remove_24 : decode cX0_remove 24 = .ok (.iadd, 1) := by decide +kernel
theorem dX0_remove_25 : decode cX0_remove 25 = .ok (.aload_n 0, 1) := by decide +kernel
theorem dX0_remove_26 : decode cX0_remove 26 = .ok (.getfield 9, 3) := by decide +kernel
theorem dX0_remove_29 : decode cX0_remove 29 = .ok (.iload_n 1, 1) := by decide +kernel
theorem dX0_remove_30 : decode cX0_remove 30 = .ok (.iload_n 2, 1) := by decide +kernel
theorem dX0_remove_31 : decode cX0_remove 31 = .ok (.invokestatic 55, 3) := by decide +kernel
theorem dX0_remove_34 : decode cX0_remove 34 = .ok (.aload_n 0, 1) := by decide +kernel
theorem dX0_remove_35 : decode cX0_remove 35 = .ok (.getfield 15, 3) := by decide +kernel
theorem dX0_remove_38 : decode cX0_remove 38 = .ok (.iload_n 1, 1) := by decide +kernel
theorem dX0_remove_39 : decode cX0_remove 39 = .ok (.iconst 1, 1) := by decide +kernel
theorem dX0_remove_40 : decode cX0_remove 40 = .ok (.iadd, 1) := by decide +kernel
theorem dX0_remove_41 : decode cX0_remove 41 = .ok (.aload_n 0, 1) := by decide +kernel
theorem dX0_remove_42 : decode cX0_remove 42 = .ok (.getfield 15, 3) := by decide +kernel
theorem dX0_remove_45 : decode cX0_remove 45 = .ok (.iload_n 1, 1) := by decide +kernel
theorem dX0_remove_46 : decode cX0_remove 46 = .ok (.iload_n 2, 1) := by decide +kernel
theorem dX0_remove_47 : decode cX0_remove 47 = .ok (.invokestatic 55, 3) := by decide +kernel
theorem dX0_remove_50 : decode cX0_remove 50 = .ok (.aload_n 0, 1) := by decide +kernel
theorem dX0_remove_51 : decode cX0_remove 51 = .ok (.getfield 19, 3) := by decide +kernel
theorem dX0_remove_54 : decode cX0_remove 54 = .ok (.iload_n 1, 1) := by decide +kernel
theorem dX0_remove_55 : decode cX0_remove 55 = .ok (.iconst 1, 1) := by decide +kernel
theorem dX0_remove_56 : decode cX0_remove 56 = .ok (.iadd, 1) := by decide +kernel
theorem dX0_remove_57 : decode cX0_remove 57 = .ok (.aload_n 0, 1) := by decide +kernel
theorem dX0_remove_58 : decode cX0_remove 58 = .ok (.getfield 19, 3) := by decide +kernel
theorem dX0_remove_61 : decode cX0_remove 61 = .ok (.iload_n 1, 1) := by decide +kernel
theorem dX0_remove_62 : decode cX0_remove 62 = .ok (.iload_n 2, 1) := by decide +kernel
theorem dX0_remove_63 : decode cX0_remove 63 = .ok (.invokestatic 55, 3) := by decide +kernel
theorem dX0_remove_66 : decode cX0_remove 66 = .ok (.aload_n 0, 1) := by decide +kernel
theorem dX0_remove_67 : decode cX0_remove 67 = .ok (.dup, 1) := by decide +kernel
theorem dX0_remove_68 : decode cX0_remove 68 = .ok (.getfield 22, 3) := by decide +kernel
theorem dX0_remove_71 : decode cX0_remove 71 = .ok (.iconst 1, 1) := by decide +kernel
theorem dX0_remove_72 : decode cX0_remove 72 = .ok (.isub, 1) := by decide +kernel
theorem dX0_remove_73 : decode cX0_remove 73 = .ok (.putfield 22, 3) := by decide +kernel
theorem dX0_remove_76 : decode cX0_remove 76 = .ok (.return_, 1) := by decide +kernel
set_option maxRecDepth 20000 in
theorem ggX0_depthOf_X0_wordAt : GoodIn wsX0_depthOf wsX0_wordAt := goodIn_r _ [13, 14, 15, 16, 17, 12, 18, 1, 34, 35, 36, 37] (by decide +kernel) (by decide +kernel)
set_option maxRecDepth 20000 in
theorem gX0_depthOf_X0_wordAt : GoodIn wsX0_depthOf (wsV RX0 32 RX0 yX0_wordAt wsX0_wordAt) := goodIn_app (goodIn_of _ (by decide +kernel)) ggX0_depthOf_X0_wordAt
set_option maxRecDepth 20000 in
theorem ggX0_depthOf_X3_sharedBy : GoodIn wsX0_depthOf wsX3_sharedBy := goodIn_r _ [22, 23, 24, 21, 25, 26, 27, 28] (by decide +kernel) (by decide +kernel)
set_option maxRecDepth 20000 in
theorem gX0_depthOf_X3_sharedBy : GoodIn wsX0_depthOf (va_wsS RX0 61 yX3_sharedBy wsX3_sharedBy) := goodIn_app (goodIn_of _ (by decide +kernel)) ggX0_depthOf_X3_sharedBy
set_option maxRecDepth 20000 in
theorem ggX0_depthOf_X0_depthAt : GoodIn wsX0_depthOf wsX0_depthAt := goodIn_r _ [32, 33, 15, 16, 17, 12, 18, 1, 34, 35, 36, 37] (by decide +kernel) (by decide +kernel)
set_option maxRecDepth 20000 in
theorem gX0_depthOf_X0_depthAt : GoodIn wsX0_depthOf (wsV RX0 65 RX0 yX0_depthAt wsX0_depthAt) := goodIn_app (goodIn_of _ (by decide +kernel)) ggX0_depthOf_X0_depthAt
theorem dX0_depthOf_0 : decode cX0_depthOf 0 = .ok (.iconst 0, 1) := by decide +kernel
theorem dX0_depthOf_1 : decode cX0_depthOf 1 = .ok (.istore_n 3, 1) := by decide +kernel
theorem dX0_depthOf_2 : decode cX0_depthOf 2 = .ok (.iconst 0, 1) := by decide +kernel
theorem dX0_depthOf_3 : decode cX0_depthOf 3 = .ok (.istore 4, 2) := by decide +kernel
theorem dX0_depthOf_5 : decode cX0_depthOf 5 = .ok (.iload 4, 2) := by decide +kernel
theorem dX0_depthOf_7 : decode cX0_depthOf 7 = .ok (.aload_n 0, 1) := by decide +kernel
theorem dX0_depthOf_8 : decode cX0_depthOf 8 = .ok (.getfield 22, 3) := by decide +kernel
theorem dX0_depthOf_11 : decode cX0_depthOf 11 = .ok (.if_icmp .ge 39, 3) := by decide +kernel
theorem dX0_depthOf_14 : decode cX0_depthOf 14 = .ok (.aload_n 0, 1) := by decide +kernel
theorem dX0_depthOf_15 : decode cX0_depthOf 15 = .ok (.iload 4, 2) := by decide +kernel
theorem dX0_depthOf_17 : decode cX0_depthOf 17 = .ok (.invokevirtual 32, 3) := by decide +kernel
theorem dX0_depthOf_20 : decode cX0_depthOf 20 = .ok (.lload_n 1, 1) := by decide +kernel
theorem dX0_depthOf_21 : decode cX0_depthOf 21 = .ok (.invokestatic 61, 3) := by decide +kernel
theorem dX0_depthOf_24 : decode cX0_depthOf 24 = .ok (.iconst 1, 1) := by decide +kernel
theorem dX0_depthOf_25 : decode cX0_depthOf 25 = .ok (.iadd, 1) := by decide +kernel
theorem dX0_depthOf_26 : decode cX0_depthOf 26 = .ok (.istore 5, 2) := by decide +kernel
theorem dX0_depthOf_28 : decode cX0_depthOf 28 = .ok (.iload_n 3, 1) := by decide +kernel
theorem dX0_depthOf_29 : decode cX0_depthOf 29 = .ok (.iload 5, 2) := by decide +kernel
theorem dX0_depthOf_31 : decode cX0_depthOf 31 = .ok (.aload_n 0, 1) := by decide +kernel
theorem dX0_depthOf_32 : decode cX0_depthOf 32 = .ok (.iload 4, 2) := by decide +kernel
theorem dX0_depthOf_34 : decode cX0_depthOf 34 = .ok (.invokevirtual 65, 3) := by decide +kernel
theorem dX0_depthOf_37 : decode cX0_depthOf 37 = .ok (.invokestatic 68, 3) := by decide +kernel
theorem dX0_depthOf_40 : decode cX0_depthOf 40 = .ok (.invokestatic 74, 3) := by decide +kernel
theorem dX0_depthOf_43 : decode cX0_depthOf 43 = .ok (.istore_n 3, 1) := by decide +kernel
theorem dX0_depthOf_44 : decode cX0_depthOf 44 = .ok (.iinc 4 1, 3) := by decide +kernel
theorem dX0_depthOf_47 : decode cX0_depthOf 47 = .ok (.goto (-42), 3) := by decide +kernel
theorem dX0_depthOf_50 : decode cX0_depthOf 50 = .ok (.iload_n 3, 1) := by decide +kernel
theorem dX0_depthOf_51 : decode cX0_depthOf 51 = .ok (.ireturn, 1) := by decide +kernel
set_option maxRecDepth 20000 in
theorem ggX0_sharing_X0_wordAt : GoodIn wsX0_sharing wsX0_wordAt := goodIn_r _ [6, 7, 8, 9, 10, 5, 11, 1, 22, 23, 24, 25] (by decide +kernel) (by decide +kernel)
set_option maxRecDepth 20000 in
theorem gX0_sharing_X0_wordAt : GoodIn wsX0_sharing (wsV RX0 32 RX0 yX0_wordAt wsX0_wordAt) := goodIn_app (goodIn_of _ (by decide +kernel)) ggX0_sharing_X0_wordAt
set_option maxRecDepth 20000 in
theorem ggX0_sharing_X3_sharedBy : GoodIn wsX0_sharing wsX3_sharedBy := goodIn_r _ [15, 16, 17, 14, 18, 19, 20, 21] (by decide +kernel) (by decide +kernel)
set_option maxRecDepth 20000 in
theorem gX0_sharing_X3_sharedBy : GoodIn wsX0_sharing (va_wsS RX0 61 yX3_sharedBy wsX3_sharedBy) := goodIn_app (goodIn_of _ (by decide +kernel)) ggX0_sharing_X3_sharedBy
theorem dX0_sharing_0 : decode cX0_sharing 0 = .ok (.iconst 0, 1) := by decide +kernel
theorem dX0_sharing_1 : decode cX0_sharing 1 = .ok (.istore 4, 2) := by decide +kernel
theorem dX0_sharing_3 : decode cX0_sharing 3 = .ok (.iconst 0, 1) := by decide +kernel
theorem dX0_sharing_4 : decode cX0_sharing 4 = .ok (.istore 5, 2) := by decide +kernel
theorem dX0_sharing_6 : decode cX0_sharing 6 = .ok (.iload 5, 2) := by decide +kernel
theorem dX0_sharing_8 : decode cX0_sharing 8 = .ok (.aload_n 0, 1) := by decide +kernel
theorem dX0_sharing_9 : decode cX0_sharing 9 = .ok (.getfield 22, 3) := by decide +kernel
theorem dX0_sharing_12 : decode cX0_sharing 12 = .ok (.if_icmp .ge 26, 3) := by decide +kernel
theorem dX0_sharing_15 : decode cX0_sharing 15 = .ok (.aload_n 0, 1) := by decide +kernel
theorem dX0_sharing_16 : decode cX0_sharing 16 = .ok (.iload 5, 2) := by decide +kernel
theorem dX0_sharing_18 : decode cX0_sharing 18 = .ok (.invokevirtual 32, 3) := by decide +kernel
theorem dX0_sharing_21 : decode cX0_sharing 21 = .ok (.lload_n 1, 1) := by decide +kernel
theorem dX0_sharing_22 : decode cX0_sharing 22 = .ok (.invokestatic 61, 3) := by decide +kernel
theorem dX0_sharing_25 : decode cX0_sharing 25 = .ok (.iload_n 3, 1) := by decide +kernel
theorem dX0_sharing_26 : decode cX0_sharing 26 = .ok (.if_icmp .lt 6, 3) := by decide +kernel
theorem dX0_sharing_29 : decode cX0_sharing 29 = .ok (.iinc 4 1, 3) := by decide +kernel
theorem dX0_sharing_32 : decode cX0_sharing 32 = .ok (.iinc 5 1, 3) := by decide +kernel
theorem dX0_sharing_35 : decode cX0_sharing 35 = .ok (.goto (-29), 3) := by decide +kernel
theorem dX0_sharing_38 : decode cX0_sharing 38 = .ok (.iload 4, 2) := by decide +kernel
theorem dX0_sharing_40 : decode cX0_sharing 40 = .ok (.ireturn, 1) := by decide +kernel
set_option maxRecDepth 20000 in
theorem ggX0_burstDepth_X3_lengthOf : GoodIn wsX0_burstDepth wsX3_lengthOf := goodIn_r _ [4, 5, 6, 3, 7, 8, 9, 10] (by decide +kernel) (by decide +kernel)
set_option maxRecDepth 20000 in
theorem gX0_burstDepth_X3_lengthOf : GoodIn wsX0_burstDepth (va_wsS RX0 77 yX3_lengthOf wsX3_lengthOf) := goodIn_app (goodIn_of _ (by decide +kernel)) ggX0_burstDepth_X3_lengthOf
set_option maxRecDepth 20000 in
theorem ggX0_burstDepth_X0_sharing : GoodIn wsX0_burstDepth wsX0_sharing := goodIn_r _ [15, 16, 17, 18, 19, 14, 20, 21, 22, 23, 24, 25, 26, 27, 3, 28, 5, 6, 7, 8, 9, 10, 29, 30, 31, 32] (by decide +kernel) (by decide +kernel)
set_option maxRecDepth 20000 in
theorem gX0_burstDepth_X0_sharing : GoodIn wsX0_burstDepth (wsV RX0 80 RX0 yX0_sharing wsX0_sharing) := goodIn_app (goodIn_of _ (by decide +kernel)) ggX0_burstDepth_X0_sharing
theorem dX0_burstDepth_0 : decode cX0_burstDepth 0 = .ok (.lload_n 1, 1) := by decide +kernel
theorem dX0_burstDepth_1 : decode cX0_burstDepth 1 = .ok (.invokestatic 77, 3) := by decide +kernel
theorem dX0_burstDepth_4 : decode cX0_burstDepth 4 = .ok (.istore 5, 2) := by decide +kernel
theorem dX0_burstDepth_6 : decode cX0_burstDepth 6 = .ok (.iload_n 3, 1) := by decide +kernel
theorem dX0_burstDepth_7 : decode cX0_burstDepth 7 = .ok (.istore 6, 2) := by decide +kernel
theorem dX0_burstDepth_9 : decode cX0_burstDepth 9 = .ok (.iload 6, 2) := by decide +kernel
theorem dX0_burstDepth_11 : decode cX0_burstDepth 11 = .ok (.iload 5, 2) := by decide +kernel
theorem dX0_burstDepth_13 : decode cX0_burstDepth 13 = .ok (.if_icmp .gt 21, 3) := by decide +kernel
theorem dX0_burstDepth_16 : decode cX0_burstDepth 16 = .ok (.aload_n 0, 1) := by decide +kernel
theorem dX0_burstDepth_17 : decode cX0_burstDepth 17 = .ok (.lload_n 1, 1) := by decide +kernel
theorem dX0_burstDepth_18 : decode cX0_burstDepth 18 = .ok (.iload 6, 2) := by decide +kernel
theorem dX0_burstDepth_20 : decode cX0_burstDepth 20 = .ok (.invokevirtual 80, 3) := by decide +kernel
theorem dX0_burstDepth_23 : decode cX0_burstDepth 23 = .ok (.iload 4, 2) := by decide +kernel
theorem dX0_burstDepth_25 : decode cX0_burstDepth 25 = .ok (.if_icmp .le 9, 3) := by decide +kernel
theorem dX0_burstDepth_28 : decode cX0_burstDepth 28 = .ok (.iinc 6 1, 3) := by decide +kernel
theorem dX0_burstDepth_31 : decode cX0_burstDepth 31 = .ok (.goto (-22), 3) := by decide +kernel
theorem dX0_burstDepth_34 : decode cX0_burstDepth 34 = .ok (.iload 6, 2) := by decide +kernel
theorem dX0_burstDepth_36 : decode cX0_burstDepth 36 = .ok (.ireturn, 1) := by decide +kernel
set_option maxRecDepth 20000 in
theorem ggX0_mergedDepth_X0_sharing : GoodIn wsX0_mergedDepth wsX0_sharing := goodIn_r _ [5, 6, 7, 8, 9, 4, 10, 11, 12, 13, 14, 15, 16, 17, 18, 19, 20, 21, 22, 23, 24, 25, 26, 27, 28, 29] (by decide +kernel) (by decide +kernel)
set_option maxRecDepth 20000 in
theorem gX0_mergedDepth_X0_sharing : GoodIn wsX0_mergedDepth (wsV RX0 80 RX0 yX0_sharing wsX0_sharing) := goodIn_app (goodIn_of _ (by decide +kernel)) ggX0_mergedDepth_X0_sharing
theorem dX0_mergedDepth_0 : decode cX0_mergedDepth 0 = .ok (.iload_n 3, 1) := by decide +kernel
theorem dX0_mergedDepth_1 : decode cX0_mergedDepth 1 = .ok (.istore 5, 2) := by decide +kernel
theorem dX0_mergedDepth_3 : decode cX0_mergedDepth 3 = .ok (.iload 5, 2) := by decide +kernel
theorem dX0_mergedDepth_5 : decode cX0_mergedDepth 5 = .ok (.ifCond .le 23, 3) := by decide +kernel
theorem dX0_mergedDepth_8 : decode cX0_mergedDepth 8 = .ok (.aload_n 0, 1) := by decide +kernel
theorem dX0_mergedDepth_9 : decode cX0_mergedDepth 9 = .ok (.lload_n 1, 1) := by decide +kernel
theorem dX0_mergedDepth_10 : decode cX0_mergedDepth 10 = .ok (.iload 5, 2) := by decide +kernel
theorem dX0_mergedDepth_12 : decode cX0_mergedDepth 12 = .ok (.iconst 1, 1) := by decide +kernel
theorem dX0_mergedDepth_13 : decode cX0_mergedDepth 13 = .ok (.isub, 1) := by decide +kernel
theorem dX0_mergedDepth_14 : decode cX0_mergedDepth 14 = .ok (.invokevirtual 80, 3) := by decide +kernel
theorem dX0_mergedDepth_17 : decode cX0_mergedDepth 17 = .ok (.iload 4, 2) := by decide +kernel
theorem dX0_mergedDepth_19 : decode cX0_mergedDepth 19 = .ok (.if_icmp .gt 9, 3) := by decide +kernel
theorem dX0_mergedDepth_22 : decode cX0_mergedDepth 22 = .ok (.iinc 5 (-1), 3) := by decide +kernel
theorem dX0_mergedDepth_25 : decode cX0_mergedDepth 25 = .ok (.goto (-22), 3) := by decide +kernel
theorem dX0_mergedDepth_28 : decode cX0_mergedDepth 28 = .ok (.iload 5, 2) := by decide +kernel
theorem dX0_mergedDepth_30 : decode cX0_mergedDepth 30 = .ok (.ireturn, 1) := by decide +kernel
set_option maxRecDepth 20000 in
theorem ggX0_reshape_X3_sharedBy : GoodIn wsX0_reshape wsX3_sharedBy := goodIn_r _ [11, 12, 13, 10, 14, 15, 16, 17] (by decide +kernel) (by decide +kernel)
set_option maxRecDepth 20000 in
theorem gX0_reshape_X3_sharedBy : GoodIn wsX0_reshape (va_wsS RX0 61 yX3_sharedBy wsX3_sharedBy) := goodIn_app (goodIn_of _ (by decide +kernel)) ggX0_reshape_X3_sharedBy
theorem dX0_reshape_0 : decode cX0_reshape 0 = .ok (.iload_n 3, 1) := by decide +kernel
theorem dX0_reshape_1 : decode cX0_reshape 1 = .ok (.iload 4, 2) := by decide +kernel
theorem dX0_reshape_3 : decode cX0_reshape 3 = .ok (.invokestatic 68, 3) := by decide +kernel
theorem dX0_reshape_6 : decode cX0_reshape 6 = .ok (.istore 5, 2) := by decide +kernel
theorem dX0_reshape_8 : decode cX0_reshape 8 = .ok (.iconst 0, 1) := by decide +kernel
theorem dX0_reshape_9 : decode cX0_reshape 9 = .ok (.istore 6, 2) := by decide +kernel
theorem dX0_reshape_11 : decode cX0_reshape 11 = .ok (.iload 6, 2) := by decide +kernel
theorem dX0_reshape_13 : decode cX0_reshape 13 = .ok (.aload_n 0, 1) := by decide +kernel
theorem dX0_reshape_14 : decode cX0_reshape 14 = .ok (.getfield 22, 3) := by decide +kernel
theorem dX0_reshape_17 : decode cX0_reshape 17 = .ok (.if_icmp .ge 52, 3) := by decide +kernel
theorem dX0_reshape_20 : decode cX0_reshape 20 = .ok (.iload 6, 2) := by decide +kernel
theorem dX0_reshape_22 : decode cX0_reshape 22 = .ok (.bipush 40, 2) := by decide +kernel
theorem dX0_reshape_24 : decode cX0_reshape 24 = .ok (.if_icmp .ge 45, 3) := by decide +kernel
theorem dX0_reshape_27 : decode cX0_reshape 27 = .ok (.aload_n 0, 1) := by decide +kernel
theorem dX0_reshape_28 : decode cX0_reshape 28 = .ok (.getfield 9, 3) := by decide +kernel
theorem dX0_reshape_31 : decode cX0_reshape 31 = .ok (.iload 6, 2) := by decide +kernel
theorem dX0_reshape_33 : decode cX0_reshape 33 = .ok (.laload, 1) := by decide +kernel
theorem dX0_reshape_34 : decode cX0_reshape 34 = .ok (.lload_n 1, 1) := by decide +kernel
theorem dX0_reshape_35 : decode cX0_reshape 35 = .ok (.invokestatic 61, 3) := by decide +kernel
theorem dX0_reshape_38 : decode cX0_reshape 38 = .ok (.istore 7, 2) := by decide +kernel
theorem dX0_reshape_40 : decode cX0_reshape 40 = .ok (.iload 7, 2) := by decide +kernel
theorem dX0_reshape_42 : decode cX0_reshape 42 = .ok (.iload 5, 2) := by decide +kernel
theorem dX0_reshape_44 : decode cX0_reshape 44 = .ok (.if_icmp .lt 19, 3) := by decide +kernel
theorem dX0_reshape_47 : decode cX0_reshape 47 = .ok (.aload_n 0, 1) := by decide +kernel
theorem dX0_reshape_48 : decode cX0_reshape 48 = .ok (.getfield 19, 3) := by decide +kernel
theorem dX0_reshape_51 : decode cX0_reshape 51 = .ok (.iload 6, 2) := by decide +kernel
theorem dX0_reshape_53 : decode cX0_reshape 53 = .ok (.iload 4, 2) := by decide +kernel
theorem dX0_reshape_55 : decode cX0_reshape 55 = .ok (.iload 7, 2) := by decide +kernel
theorem dX0_reshape_57 : decode cX0_reshape 57 = .ok (.iconst 1, 1) := by decide +kernel
theorem dX0_reshape_58 : decode cX0_reshape 58 = .ok (.iadd, 1) := by decide +kernel
theorem dX0_reshape_59 : decode cX0_reshape 59 = .ok (.invokestatic 68, 3) := by decide +kernel
theorem dX0_reshape_62 : decode cX0_reshape 62 = .ok (.iastore, 1) := by decide +kernel
theorem dX0_reshape_63 : decode cX0_reshape 63 = .ok (.iinc 6 1, 3) := by decide +kernel
theorem dX0_reshape_66 : decode cX0_reshape 66 = .ok (.goto (-55), 3) := by decide +kernel
theorem dX0_reshape_69 : decode cX0_reshape 69 = .ok (.return_, 1) := by decide +kernel
set_option maxRecDepth 20000 in
theorem ggX0_oftenBelow_X0_oftenAt : GoodIn wsX0_oftenBelow wsX0_oftenAt := goodIn_r _ [6, 7, 8, 9, 10, 5, 11, 1, 12, 13, 14, 15] (by decide +kernel) (by decide +kernel)
set_option maxRecDepth 20000 in
theorem gX0_oftenBelow_X0_oftenAt : GoodIn wsX0_oftenBelow (wsV RX0 40 RX0 yX0_oftenAt wsX0_oftenAt) := goodIn_app (goodIn_of _ (by decide +kernel)) ggX0_oftenBelow_X0_oftenAt
theorem dX0_oftenBelow_0 : decode cX0_oftenBelow 0 = .ok (.iconst 0, 1) := by decide +kernel
theorem dX0_oftenBelow_1 : decode cX0_oftenBelow 1 = .ok (.istore_n 2, 1) := by decide +kernel
theorem dX0_oftenBelow_2 : decode cX0_oftenBelow 2 = .ok (.iconst 0, 1) := by decide +kernel
theorem dX0_oftenBelow_3 : decode cX0_oftenBelow 3 = .ok (.istore_n 3, 1) := by decide +kernel
theorem dX0_oftenBelow_4 : decode cX0_oftenBelow 4 = .ok (.iload_n 3, 1) := by decide +kernel
theorem dX0_oftenBelow_5 : decode cX0_oftenBelow 5 = .ok (.iload_n 1, 1) := by decide +kernel
theorem dX0_oftenBelow_6 : decode cX0_oftenBelow 6 = .ok (.if_icmp .ge 25, 3) := by decide +kernel
theorem dX0_oftenBelow_9 : decode cX0_oftenBelow 9 = .ok (.iload_n 3, 1) := by decide +kernel
theorem dX0_oftenBelow_10 : decode cX0_oftenBelow 10 = .ok (.aload_n 0, 1) := by decide +kernel
theorem dX0_oftenBelow_11 : decode cX0_oftenBelow 11 = .ok (.getfield 22, 3) := by decide +kernel
theorem dX0_oftenBelow_14 : decode cX0_oftenBelow 14 = .ok (.if_icmp .ge 17, 3) := by decide +kernel
theorem dX0_oftenBelow_17 : decode cX0_oftenBelow 17 = .ok (.iload_n 2, 1) := by decide +kernel
theorem dX0_oftenBelow_18 : decode cX0_oftenBelow 18 = .ok (.aload_n 0, 1) := by decide +kernel
theorem dX0_oftenBelow_19 : decode cX0_oftenBelow 19 = .ok (.iload_n 3, 1) := by decide +kernel
theorem dX0_oftenBelow_20 : decode cX0_oftenBelow 20 = .ok (.invokevirtual 40, 3) := by decide +kernel
theorem dX0_oftenBelow_23 : decode cX0_oftenBelow 23 = .ok (.iadd, 1) := by decide +kernel
theorem dX0_oftenBelow_24 : decode cX0_oftenBelow 24 = .ok (.istore_n 2, 1) := by decide +kernel
theorem dX0_oftenBelow_25 : decode cX0_oftenBelow 25 = .ok (.iinc 3 1, 3) := by decide +kernel
theorem dX0_oftenBelow_28 : decode cX0_oftenBelow 28 = .ok (.goto (-24), 3) := by decide +kernel
theorem dX0_oftenBelow_31 : decode cX0_oftenBelow 31 = .ok (.iload_n 2, 1) := by decide +kernel
theorem dX0_oftenBelow_32 : decode cX0_oftenBelow 32 = .ok (.ireturn, 1) := by decide +kernel
set_option maxRecDepth 20000 in
theorem ggX0_oftenBegun_X0_wordAt : GoodIn wsX0_oftenBegun wsX0_wordAt := goodIn_r _ [6, 7, 8, 9, 10, 5, 11, 1, 33, 34, 35, 36] (by decide +kernel) (by decide +kernel)
set_option maxRecDepth 20000 in
theorem gX0_oftenBegun_X0_wordAt : GoodIn wsX0_oftenBegun (wsV RX0 32 RX0 yX0_wordAt wsX0_wordAt) := goodIn_app (goodIn_of _ (by decide +kernel)) ggX0_oftenBegun_X0_wordAt
set_option maxRecDepth 20000 in
theorem ggX0_oftenBegun_X3_begins : GoodIn wsX0_oftenBegun wsX3_begins := goodIn_r _ [15, 16, 17, 14, 18, 19, 20, 21, 22, 23, 24, 25, 26, 27] (by decide +kernel) (by decide +kernel)
set_option maxRecDepth 20000 in
theorem gX0_oftenBegun_X3_begins : GoodIn wsX0_oftenBegun (va_wsS RX0 84 yX3_begins wsX3_begins) := goodIn_app (goodIn_of _ (by decide +kernel)) ggX0_oftenBegun_X3_begins
set_option maxRecDepth 20000 in
theorem ggX0_oftenBegun_X0_oftenAt : GoodIn wsX0_oftenBegun wsX0_oftenAt := goodIn_r _ [31, 32, 8, 9, 10, 5, 11, 1, 33, 34, 35, 36] (by decide +kernel) (by decide +kernel)
set_option maxRecDepth 20000 in
theorem gX0_oftenBegun_X0_oftenAt : GoodIn wsX0_oftenBegun (wsV RX0 40 RX0 yX0_oftenAt wsX0_oftenAt) := goodIn_app (goodIn_of _ (by decide +kernel)) ggX0_oftenBegun_X0_oftenAt
theorem dX0_oftenBegun_0 : decode cX0_oftenBegun 0 = .ok (.iconst 0, 1) := by decide +kernel
theorem dX0_oftenBegun_1 : decode cX0_oftenBegun 1 = .ok (.istore_n 3, 1) := by decide +kernel
theorem dX0_oftenBegun_2 : decode cX0_oftenBegun 2 = .ok (.iconst 0, 1) := by decide +kernel
theorem dX0_oftenBegun_3 : decode cX0_oftenBegun 3 = .ok (.istore 4, 2) := by decide +kernel
theorem dX0_oftenBegun_5 : decode cX0_oftenBegun 5 = .ok (.iload 4, 2) := by decide +kernel
theorem dX0_oftenBegun_7 : decode cX0_oftenBegun 7 = .ok (.aload_n 0, 1) := by decide +kernel
theorem dX0_oftenBegun_8 : decode cX0_oftenBegun 8 = .ok (.getfield 22, 3) := by decide +kernel
theorem dX0_oftenBegun_11 : decode cX0_oftenBegun 11 = .ok (.if_icmp .ge 31, 3) := by decide +kernel
theorem dX0_oftenBegun_14 : decode cX0_oftenBegun 14 = .ok (.lload_n 1, 1) := by decide +kernel
theorem dX0_oftenBegun_15 : decode cX0_oftenBegun 15 = .ok (.aload_n 0, 1) := by decide +kernel
theorem dX0_oftenBegun_16 : decode cX0_oftenBegun 16 = .ok (.iload 4, 2) := by decide +kernel
theorem dX0_oftenBegun_18 : decode cX0_oftenBegun 18 = .ok (.invokevirtual 32, 3) := by decide +kernel
theorem dX0_oftenBegun_21 : decode cX0_oftenBegun 21 = .ok (.invokestatic 84, 3) := by decide +kernel
theorem dX0_oftenBegun_24 : decode cX0_oftenBegun 24 = .ok (.ifCond .eq 12, 3) := by decide +kernel
theorem dX0_oftenBegun_27 : decode cX0_oftenBegun 27 = .ok (.iload_n 3, 1) := by decide +kernel
theorem dX0_oftenBegun_28 : decode cX0_oftenBegun 28 = .ok (.aload_n 0, 1) := by decide +kernel
theorem dX0_oftenBegun_29 : decode cX0_oftenBegun 29 = .ok (.iload 4, 2) := by decide +kernel
theorem dX0_oftenBegun_31 : decode cX0_oftenBegun 31 = .ok (.invokevirtual 40, 3) := by decide +kernel
theorem dX0_oftenBegun_34 : decode cX0_oftenBegun 34 = .ok (.iadd, 1) := by decide +kernel
theorem dX0_oftenBegun_35 : decode cX0_oftenBegun 35 = .ok (.istore_n 3, 1) := by decide +kernel
theorem dX0_oftenBegun_36 : decode cX0_oftenBegun 36 = .ok (.iinc 4 1, 3) := by decide +kernel
theorem dX0_oftenBegun_39 : decode cX0_oftenBegun 39 = .ok (.goto (-34), 3) := by decide +kernel
theorem dX0_oftenBegun_42 : decode cX0_oftenBegun 42 = .ok (.iload_n 3, 1) := by decide +kernel
theorem dX0_oftenBegun_43 : decode cX0_oftenBegun 43 = .ok (.ireturn, 1) := by decide +kernel
set_option maxRecDepth 20000 in
theorem ggX0_mostSharedWithOthers_X0_wordAt : GoodIn wsX0_mostSharedWithOthers wsX0_wordAt := goodIn_r _ [10, 11, 12, 13, 14, 9, 15, 1, 26, 27, 28, 29] (by decide +kernel) (by decide +kernel)
set_option maxRecDepth 20000 in
theorem gX0_mostSharedWithOthers_X0_wordAt : GoodIn wsX0_mostSharedWithOthers (wsV RX0 32 RX0 yX0_wordAt wsX0_wordAt) := goodIn_app (goodIn_of _ (by decide +kernel)) ggX0_mostSharedWithOthers_X0_wordAt
set_option maxRecDepth 20000 in
theorem ggX0_mostSharedWithOthers_X3_sharedBy : GoodIn wsX0_mostSharedWithOthers wsX3_sharedBy := goodIn_r _ [19, 20, 21, 18, 22, 23, 24, 25] (by decide +kernel) (by decide +kernel)
set_option maxRecDepth 20000 in
theorem gX0_mostSharedWithOthers_X3_sharedBy : GoodIn wsX0_mostSharedWithOthers (va_wsS RX0 61 yX3_sharedBy wsX3_sharedBy) := goodIn_app (goodIn_of _ (by decide +kernel)) ggX0_mostSharedWithOthers_X3_sharedBy
theorem dX0_mostSharedWithOthers_0 : decode cX0_mostSharedWithOthers 0 = .ok (.iconst (-1), 1) := by decide +kernel
theorem dX0_mostSharedWithOthers_1 : decode cX0_mostSharedWithOthers 1 = .ok (.istore_n 3, 1) := by decide +kernel
theorem dX0_mostSharedWithOthers_2 : decode cX0_mostSharedWithOthers 2 = .ok (.iconst 0, 1) := by decide +kernel
theorem dX0_mostSharedWithOthers_3 : decode cX0_mostSharedWithOthers 3 = .ok (.istore 4, 2) := by decide +kernel
theorem dX0_mostSharedWithOthers_5 : decode cX0_mostSharedWithOthers 5 = .ok (.iload 4, 2) := by decide +kernel
theorem dX0_mostSharedWithOthers_7 : decode cX0_mostSharedWithOthers 7 = .ok (.aload_n 0, 1) := by decide +kernel
theorem dX0_mostSharedWithOthers_8 : decode cX0_mostSharedWithOthers 8 = .ok (.getfield 22, 3) := by decide +kernel
theorem dX0_mostSharedWithOthers_11 : decode cX0_mostSharedWithOthers 11 = .ok (.if_icmp .ge 35, 3) := by decide +kernel
theorem dX0_mostSharedWithOthers_14 : decode cX0_mostSharedWithOthers 14 = .ok (.aload_n 0, 1) := by decide +kernel
theorem dX0_mostSharedWithOthers_15 : decode cX0_mostSharedWithOthers 15 = .ok (.iload 4, 2) := by decide +kernel
theorem dX0_mostSharedWithOthers_17 : decode cX0_mostSharedWithOthers 17 = .ok (.invokevirtual 32, 3) := by decide +kernel
theorem dX0_mostSharedWithOthers_20 : decode cX0_mostSharedWithOthers 20 = .ok (.lload_n 1, 1) := by decide +kernel
theorem dX0_mostSharedWithOthers_21 : decode cX0_mostSharedWithOthers 21 = .ok (.lcmp, 1) := by decide +kernel
theorem dX0_mostSharedWithOthers_22 : decode cX0_mostSharedWithOthers 22 = .ok (.ifCond .eq 18, 3) := by decide +kernel
theorem dX0_mostSharedWithOthers_25 : decode cX0_mostSharedWithOthers 25 = .ok (.iload_n 3, 1) := by decide +kernel
theorem dX0_mostSharedWithOthers_26 : decode cX0_mostSharedWithOthers 26 = .ok (.aload_n 0, 1) := by decide +kernel
theorem dX0_mostSharedWithOthers_27 : decode cX0_mostSharedWithOthers 27 = .ok (.iload 4, 2) := by decide +kernel
theorem dX0_mostSharedWithOthers_29 : decode cX0_mostSharedWithOthers 29 = .ok (.invokevirtual 32, 3) := by decide +kernel
theorem dX0_mostSharedWithOthers_32 : decode cX0_mostSharedWithOthers 32 = .ok (.lload_n 1, 1) := by decide +kernel
theorem dX0_mostSharedWithOthers_33 : decode cX0_mostSharedWithOthers 33 = .ok (.invokestatic 61, 3) := by decide +kernel
theorem dX0_mostSharedWithOthers_36 : decode cX0_mostSharedWithOthers 36 = .ok (.invokestatic 74, 3) := by decide +kernel
theorem dX0_mostSharedWithOthers_39 : decode cX0_mostSharedWithOthers 39 = .ok (.istore_n 3, 1) := by decide +kernel
theorem dX0_mostSharedWithOthers_40 : decode cX0_mostSharedWithOthers 40 = .ok (.iinc 4 1, 3) := by decide +kernel
theorem dX0_mostSharedWithOthers_43 : decode cX0_mostSharedWithOthers 43 = .ok (.goto (-38), 3) := by decide +kernel
theorem dX0_mostSharedWithOthers_46 : decode cX0_mostSharedWithOthers 46 = .ok (.iload_n 3, 1) := by decide +kernel
theorem dX0_mostSharedWithOthers_47 : decode cX0_mostSharedWithOthers 47 = .ok (.ireturn, 1) := by decide +kernel
set_option maxRecDepth 20000 in
theorem ggX0_longestIn_X0_wordAt : GoodIn wsX0_longestIn wsX0_wordAt := goodIn_r _ [10, 11, 12, 13, 14, 9, 15, 1, 33, 34, 35, 36] (by decide +kernel) (by decide +kernel)
set_option maxRecDepth 20000 in
theorem gX0_longestIn_X0_wordAt : GoodIn wsX0_longestIn (wsV RX0 32 RX0 yX0_wordAt wsX0_wordAt) := goodIn_app (goodIn_of _ (by decide +kernel)) ggX0_longestIn_X0_wordAt
set_option maxRecDepth 20000 in
theorem ggX0_longestIn_X3_begins : GoodIn wsX0_longestIn wsX3_begins := goodIn_r _ [19, 20, 21, 18, 22, 23, 24, 25, 26, 27, 28, 29, 30, 31] (by decide +kernel) (by decide +kernel)
set_option maxRecDepth 20000 in
theorem gX0_longestIn_X3_begins : GoodIn wsX0_longestIn (va_wsS RX0 84 yX3_begins wsX3_begins) := goodIn_app (goodIn_of _ (by decide +kernel)) ggX0_longestIn_X3_begins
set_option maxRecDepth 20000 in
theorem ggX0_longestIn_X3_lengthOf : GoodIn wsX0_longestIn wsX3_lengthOf := goodIn_r _ [31, 23, 24, 18, 25, 26, 27, 28] (by decide +kernel) (by decide +kernel)
set_option maxRecDepth 20000 in
theorem gX0_longestIn_X3_lengthOf : GoodIn wsX0_longestIn (va_wsS RX0 77 yX3_lengthOf wsX3_lengthOf) := goodIn_app (goodIn_of _ (by decide +kernel)) ggX0_longestIn_X3_lengthOf
theorem dX0_longestIn_0 : decode cX0_longestIn 0 = .ok (.iconst 0, 1) := by decide +kernel
theorem dX0_longestIn_1 : decode cX0_longestIn 1 = .ok (.istore_n 3, 1) := by decide +kernel
theorem dX0_longestIn_2 : decode cX0_longestIn 2 = .ok (.iconst 0, 1) := by decide +kernel
theorem dX0_longestIn_3 : decode cX0_longestIn 3 = .ok (.istore 4, 2) := by decide +kernel
theorem dX0_longestIn_5 : decode cX0_longestIn 5 = .ok (.iload 4, 2) := by decide +kernel
theorem dX0_longestIn_7 : decode cX0_longestIn 7 = .ok (.aload_n 0, 1) := by decide +kernel
theorem dX0_longestIn_8 : decode cX0_longestIn 8 = .ok (.getfield 22, 3) := by decide +kernel
theorem dX0_longestIn_11 : decode cX0_longestIn 11 = .ok (.if_icmp .ge 36, 3) := by decide +kernel
theorem dX0_longestIn_14 : decode cX0_longestIn 14 = .ok (.aload_n 0, 1) := by decide +kernel
theorem dX0_longestIn_15 : decode cX0_longestIn 15 = .ok (.iload 4, 2) := by decide +kernel
theorem dX0_longestIn_17 : decode cX0_longestIn 17 = .ok (.invokevirtual 32, 3) := by decide +kernel
theorem dX0_longestIn_20 : decode cX0_longestIn 20 = .ok (.lload_n 1, 1) := by decide +kernel
theorem dX0_longestIn_21 : decode cX0_longestIn 21 = .ok (.invokestatic 84, 3) := by decide +kernel
theorem dX0_longestIn_24 : decode cX0_longestIn 24 = .ok (.ifCond .eq 17, 3) := by decide +kernel
theorem dX0_longestIn_27 : decode cX0_longestIn 27 = .ok (.iload_n 3, 1) := by decide +kernel
theorem dX0_longestIn_28 : decode cX0_longestIn 28 = .ok (.aload_n 0, 1) := by decide +kernel
theorem dX0_longestIn_29 : decode cX0_longestIn 29 = .ok (.iload 4, 2) := by decide +kernel
theorem dX0_longestIn_31 : decode cX0_longestIn 31 = .ok (.invokevirtual 32, 3) := by decide +kernel
theorem dX0_longestIn_34 : decode cX0_longestIn 34 = .ok (.invokestatic 77, 3) := by decide +kernel
theorem dX0_longestIn_37 : decode cX0_longestIn 37 = .ok (.invokestatic 74, 3) := by decide +kernel
theorem dX0_longestIn_40 : decode cX0_longestIn 40 = .ok (.istore_n 3, 1) := by decide +kernel
theorem dX0_longestIn_41 : decode cX0_longestIn 41 = .ok (.iinc 4 1, 3) := by decide +kernel
theorem dX0_longestIn_44 : decode cX0_longestIn 44 = .ok (.goto (-39), 3) := by decide +kernel
theorem dX0_longestIn_47 : decode cX0_longestIn 47 = .ok (.iload_n 3, 1) := by decide +kernel
theorem dX0_longestIn_48 : decode cX0_longestIn 48 = .ok (.ireturn, 1) := by decide +kernel
set_option maxRecDepth 20000 in
theorem ggX0_alike_X3_lengthOf : GoodIn wsX0_alike wsX3_lengthOf := goodIn_r _ [5, 6, 7, 4, 8, 9, 10, 11] (by decide +kernel) (by decide +kernel)
set_option maxRecDepth 20000 in
theorem gX0_alike_X3_lengthOf : GoodIn wsX0_alike (va_wsS RX0 77 yX3_lengthOf wsX3_lengthOf) := goodIn_app (goodIn_of _ (by decide +kernel)) ggX0_alike_X3_lengthOf
set_option maxRecDepth 20000 in
theorem ggX0_alike_X0_wordAt : GoodIn wsX0_alike wsX0_wordAt := goodIn_r _ [16, 17, 18, 19, 20, 15, 21, 1, 25, 26, 27, 28] (by decide +kernel) (by decide +kernel)
set_option maxRecDepth 20000 in
theorem gX0_alike_X0_wordAt : GoodIn wsX0_alike (wsV RX0 32 RX0 yX0_wordAt wsX0_wordAt) := goodIn_app (goodIn_of _ (by decide +kernel)) ggX0_alike_X0_wordAt
set_option maxRecDepth 20000 in
theorem ggX0_alike_X3_differences : GoodIn wsX0_alike wsX3_differences := goodIn_r _ [24, 6, 7, 4, 8, 9, 10, 11] (by decide +kernel) (by decide +kernel)
set_option maxRecDepth 20000 in
theorem gX0_alike_X3_differences : GoodIn wsX0_alike (va_wsS RX0 88 yX3_differences wsX3_differences) := goodIn_app (goodIn_of _ (by decide +kernel)) ggX0_alike_X3_differences
theorem dX0_alike_0 : decode cX0_alike 0 = .ok (.lload_n 1, 1) := by decide +kernel
theorem dX0_alike_1 : decode cX0_alike 1 = .ok (.invokestatic 77, 3) := by decide +kernel
theorem dX0_alike_4 : decode cX0_alike 4 = .ok (.istore 4, 2) := by decide +kernel
theorem dX0_alike_6 : decode cX0_alike 6 = .ok (.iconst 0, 1) := by decide +kernel
theorem dX0_alike_7 : decode cX0_alike 7 = .ok (.istore 5, 2) := by decide +kernel
theorem dX0_alike_9 : decode cX0_alike 9 = .ok (.iconst 0, 1) := by decide +kernel
theorem dX0_alike_10 : decode cX0_alike 10 = .ok (.istore 6, 2) := by decide +kernel
theorem dX0_alike_12 : decode cX0_alike 12 = .ok (.iload 6, 2) := by decide +kernel
theorem dX0_alike_14 : decode cX0_alike 14 = .ok (.aload_n 0, 1) := by decide +kernel
theorem dX0_alike_15 : decode cX0_alike 15 = .ok (.getfield 22, 3) := by decide +kernel
theorem dX0_alike_18 : decode cX0_alike 18 = .ok (.if_icmp .ge 40, 3) := by decide +kernel
theorem dX0_alike_21 : decode cX0_alike 21 = .ok (.aload_n 0, 1) := by decide +kernel
theorem dX0_alike_22 : decode cX0_alike 22 = .ok (.iload 6, 2) := by decide +kernel
theorem dX0_alike_24 : decode cX0_alike 24 = .ok (.invokevirtual 32, 3) := by decide +kernel
theorem dX0_alike_27 : decode cX0_alike 27 = .ok (.invokestatic 77, 3) := by decide +kernel
theorem dX0_alike_30 : decode cX0_alike 30 = .ok (.iload 4, 2) := by decide +kernel
theorem dX0_alike_32 : decode cX0_alike 32 = .ok (.if_icmp .ne 20, 3) := by decide +kernel
theorem dX0_alike_35 : decode cX0_alike 35 = .ok (.aload_n 0, 1) := by decide +kernel
theorem dX0_alike_36 : decode cX0_alike 36 = .ok (.iload 6, 2) := by decide +kernel
theorem dX0_alike_38 : decode cX0_alike 38 = .ok (.invokevirtual 32, 3) := by decide +kernel
theorem dX0_alike_41 : decode cX0_alike 41 = .ok (.lload_n 1, 1) := by decide +kernel
theorem dX0_alike_42 : decode cX0_alike 42 = .ok (.invokestatic 88, 3) := by decide +kernel
theorem dX0_alike_45 : decode cX0_alike 45 = .ok (.iload_n 3, 1) := by decide +kernel
theorem dX0_alike_46 : decode cX0_alike 46 = .ok (.if_icmp .gt 6, 3) := by decide +kernel
theorem dX0_alike_49 : decode cX0_alike 49 = .ok (.iinc 5 1, 3) := by decide +kernel
theorem dX0_alike_52 : decode cX0_alike 52 = .ok (.iinc 6 1, 3) := by decide +kernel
theorem dX0_alike_55 : decode cX0_alike 55 = .ok (.goto (-43), 3) := by decide +kernel
theorem dX0_alike_58 : decode cX0_alike 58 = .ok (.iload 5, 2) := by decide +kernel
theorem dX0_alike_60 : decode cX0_alike 60 = .ok (.ireturn, 1) := by decide +kernel
set_option maxRecDepth 20000 in
theorem ggX0_holderOf_X0_oftenAt : GoodIn wsX0_holderOf wsX0_oftenAt := goodIn_r _ [6, 7, 8, 9, 10, 5, 11, 1, 12, 13, 14, 15] (by decide +kernel) (by decide +kernel)
set_option maxRecDepth 20000 in
theorem gX0_holderOf_X0_oftenAt : GoodIn wsX0_holderOf (wsV RX0 40 RX0 yX0_oftenAt wsX0_oftenAt) := goodIn_app (goodIn_of _ (by decide +kernel)) ggX0_holderOf_X0_oftenAt
theorem dX0_holderOf_0 : decode cX0_holderOf 0 = .ok (.iload_n 1, 1) := by decide +kernel
theorem dX0_holderOf_1 : decode cX0_holderOf 1 = .ok (.istore_n 2, 1) := by decide +kernel
theorem dX0_holderOf_2 : decode cX0_holderOf 2 = .ok (.iconst 0, 1) := by decide +kernel
theorem dX0_holderOf_3 : decode cX0_holderOf 3 = .ok (.istore_n 3, 1) := by decide +kernel
theorem dX0_holderOf_4 : decode cX0_holderOf 4 = .ok (.iload_n 3, 1) := by decide +kernel
theorem dX0_holderOf_5 : decode cX0_holderOf 5 = .ok (.aload_n 0, 1) := by decide +kernel
theorem dX0_holderOf_6 : decode cX0_holderOf 6 = .ok (.getfield 22, 3) := by decide +kernel
theorem dX0_holderOf_9 : decode cX0_holderOf 9 = .ok (.if_icmp .ge 28, 3) := by decide +kernel
theorem dX0_holderOf_12 : decode cX0_holderOf 12 = .ok (.iload_n 2, 1) := by decide +kernel
theorem dX0_holderOf_13 : decode cX0_holderOf 13 = .ok (.aload_n 0, 1) := by decide +kernel
theorem dX0_holderOf_14 : decode cX0_holderOf 14 = .ok (.iload_n 3, 1) := by decide +kernel
theorem dX0_holderOf_15 : decode cX0_holderOf 15 = .ok (.invokevirtual 40, 3) := by decide +kernel
theorem dX0_holderOf_18 : decode cX0_holderOf 18 = .ok (.if_icmp .ge 5, 3) := by decide +kernel
theorem dX0_holderOf_21 : decode cX0_holderOf 21 = .ok (.iload_n 3, 1) := by decide +kernel
theorem dX0_holderOf_22 : decode cX0_holderOf 22 = .ok (.ireturn, 1) := by decide +kernel
theorem dX0_holderOf_23 : decode cX0_holderOf 23 = .ok (.iload_n 2, 1) := by decide +kernel
theorem dX0_holderOf_24 : decode cX0_holderOf 24 = .ok (.aload_n 0, 1) := by decide +kernel
theorem dX0_holderOf_25 : decode cX0_holderOf 25 = .ok (.iload_n 3, 1) := by decide +kernel
theorem dX0_holderOf_26 : decode cX0_holderOf 26 = .ok (.invokevirtual 40, 3) := by decide +kernel
theorem dX0_holderOf_29 : decode cX0_holderOf 29 = .ok (.isub, 1) := by decide +kernel
theorem dX0_holderOf_30 : decode cX0_holderOf 30 = .ok (.istore_n 2, 1) := by decide +kernel
theorem dX0_holderOf_31 : decode cX0_holderOf 31 = .ok (.iinc 3 1, 3) := by decide +kernel
theorem dX0_holderOf_34 : decode cX0_holderOf 34 = .ok (.goto (-30), 3) := by decide +kernel
theorem dX0_holderOf_37 : decode cX0_holderOf 37 = .ok (.iconst (-1), 1) := by decide +kernel
theorem dX0_holderOf_38 : decode cX0_holderOf 38 = .ok (.ireturn, 1) := by decide +kernel
set_option maxRecDepth 20000 in
theorem ggX0_frequent_X0_wordAt : GoodIn wsX0_frequent wsX0_wordAt := goodIn_r _ [6, 7, 8, 9, 10, 5, 11, 1, 37, 38, 39, 40] (by decide +kernel) (by decide +kernel)
set_option maxRecDepth 20000 in
theorem gX0_frequent_X0_wordAt : GoodIn wsX0_frequent (wsV RX0 32 RX0 yX0_wordAt wsX0_wordAt) := goodIn_app (goodIn_of _ (by decide +kernel)) ggX0_frequent_X0_wordAt
set_option maxRecDepth 20000 in
theorem ggX0_frequent_X3_begins : GoodIn wsX0_frequent wsX3_begins := goodIn_r _ [15, 16, 17, 14, 18, 19, 20, 21, 22, 23, 24, 25, 26, 27] (by decide +kernel) (by decide +kernel)
set_option maxRecDepth 20000 in
theorem gX0_frequent_X3_begins : GoodIn wsX0_frequent (va_wsS RX0 84 yX3_begins wsX3_begins) := goodIn_app (goodIn_of _ (by decide +kernel)) ggX0_frequent_X3_begins
set_option maxRecDepth 20000 in
theorem ggX0_frequent_X0_moreFrequent : GoodIn wsX0_frequent wsX0_moreFrequent := goodIn_r _ [31, 1, 32, 33, 34, 5, 35, 36, 8, 9, 10, 11, 2, 3, 4, 6, 7, 12, 13, 14, 15, 16, 17, 18, 19, 20, 21, 22, 23, 24, 25, 26, 27, 37, 38, 39, 40] (by decide +kernel) (by decide +kernel)
set_option maxRecDepth 20000 in
theorem gX0_frequent_X0_moreFrequent : GoodIn wsX0_frequent (wsV RX0 91 RX0 yX0_moreFrequent wsX0_moreFrequent) := goodIn_app (goodIn_of _ (by decide +kernel)) ggX0_frequent_X0_moreFrequent
theorem dX0_frequent_0 : decode cX0_frequent 0 = .ok (.iconst 0, 1) := by decide +kernel
theorem dX0_frequent_1 : decode cX0_frequent 1 = .ok (.istore 4, 2) := by decide +kernel
theorem dX0_frequent_3 : decode cX0_frequent 3 = .ok (.iload 4, 2) := by decide +kernel
theorem dX0_frequent_5 : decode cX0_frequent 5 = .ok (.aload_n 0, 1) := by decide +kernel
theorem dX0_frequent_6 : decode cX0_frequent 6 = .ok (.getfield 22, 3) := by decide +kernel
theorem dX0_frequent_9 : decode cX0_frequent 9 = .ok (.if_icmp .ge 36, 3) := by decide +kernel
theorem dX0_frequent_12 : decode cX0_frequent 12 = .ok (.lload_n 1, 1) := by decide +kernel
theorem dX0_frequent_13 : decode cX0_frequent 13 = .ok (.aload_n 0, 1) := by decide +kernel
theorem dX0_frequent_14 : decode cX0_frequent 14 = .ok (.iload 4, 2) := by decide +kernel
theorem dX0_frequent_16 : decode cX0_frequent 16 = .ok (.invokevirtual 32, 3) := by decide +kernel
theorem dX0_frequent_19 : decode cX0_frequent 19 = .ok (.invokestatic 84, 3) := by decide +kernel
theorem dX0_frequent_22 : decode cX0_frequent 22 = .ok (.ifCond .eq 17, 3) := by decide +kernel
theorem dX0_frequent_25 : decode cX0_frequent 25 = .ok (.aload_n 0, 1) := by decide +kernel
theorem dX0_frequent_26 : decode cX0_frequent 26 = .ok (.lload_n 1, 1) := by decide +kernel
theorem dX0_frequent_27 : decode cX0_frequent 27 = .ok (.iload 4, 2) := by decide +kernel
theorem dX0_frequent_29 : decode cX0_frequent 29 = .ok (.invokevirtual 91, 3) := by decide +kernel
theorem dX0_frequent_32 : decode cX0_frequent 32 = .ok (.iload_n 3, 1) := by decide +kernel
theorem dX0_frequent_33 : decode cX0_frequent 33 = .ok (.if_icmp .ne 6, 3) := by decide +kernel
theorem dX0_frequent_36 : decode cX0_frequent 36 = .ok (.iload 4, 2) := by decide +kernel
theorem dX0_frequent_38 : decode cX0_frequent 38 = .ok (.ireturn, 1) := by decide +kernel
theorem dX0_frequent_39 : decode cX0_frequent 39 = .ok (.iinc 4 1, 3) := by decide +kernel
theorem dX0_frequent_42 : decode cX0_frequent 42 = .ok (.goto (-39), 3) := by decide +kernel
theorem dX0_frequent_45 : decode cX0_frequent 45 = .ok (.iconst (-1), 1) := by decide +kernel
theorem dX0_frequent_46 : decode cX0_frequent 46 = .ok (.ireturn, 1) := by decide +kernel
set_option maxRecDepth 20000 in
theorem ggX0_moreFrequent_X0_oftenAt : GoodIn wsX0_moreFrequent wsX0_oftenAt := goodIn_r _ [6, 7, 8, 9, 10, 5, 11, 1, 33, 34, 35, 36] (by decide +kernel) (by decide +kernel)
set_option maxRecDepth 20000 in
theorem gX0_moreFrequent_X0_oftenAt : GoodIn wsX0_moreFrequent (wsV RX0 40 RX0 yX0_oftenAt wsX0_oftenAt) := goodIn_app (goodIn_of _ (by decide +kernel)) ggX0_moreFrequent_X0_oftenAt
set_option maxRecDepth 20000 in
theorem ggX0_moreFrequent_X0_wordAt : GoodIn wsX0_moreFrequent wsX0_wordAt := goodIn_r _ [15, 16, 8, 9, 10, 5, 11, 1, 33, 34, 35, 36] (by decide +kernel) (by decide +kernel)
set_option maxRecDepth 20000 in
theorem gX0_moreFrequent_X0_wordAt : GoodIn wsX0_moreFrequent (wsV RX0 32 RX0 yX0_wordAt wsX0_wordAt) := goodIn_app (goodIn_of _ (by decide +kernel)) ggX0_moreFrequent_X0_wordAt
set_option maxRecDepth 20000 in
theorem ggX0_moreFrequent_X3_begins : GoodIn wsX0_moreFrequent wsX3_begins := goodIn_r _ [20, 21, 22, 19, 23, 24, 25, 26, 27, 28, 29, 30, 31, 32] (by decide +kernel) (by decide +kernel)
set_option maxRecDepth 20000 in
theorem gX0_moreFrequent_X3_begins : GoodIn wsX0_moreFrequent (va_wsS RX0 84 yX3_begins wsX3_begins) := goodIn_app (goodIn_of _ (by decide +kernel)) ggX0_moreFrequent_X3_begins
theorem dX0_moreFrequent_0 : decode cX0_moreFrequent 0 = .ok (.iconst 0, 1) := by decide +kernel
theorem dX0_moreFrequent_1 : decode cX0_moreFrequent 1 = .ok (.istore 4, 2) := by decide +kernel
theorem dX0_moreFrequent_3 : decode cX0_moreFrequent 3 = .ok (.iconst 0, 1) := by decide +kernel
theorem dX0_moreFrequent_4 : decode cX0_moreFrequent 4 = .ok (.istore 5, 2) := by decide +kernel
theorem dX0_moreFrequent_6 : decode cX0_moreFrequent 6 = .ok (.iload 5, 2) := by decide +kernel
theorem dX0_moreFrequent_8 : decode cX0_moreFrequent 8 = .ok (.aload_n 0, 1) := by decide +kernel
theorem dX0_moreFrequent_9 : decode cX0_moreFrequent 9 = .ok (.getfield 22, 3) := by decide +kernel
theorem dX0_moreFrequent_12 : decode cX0_moreFrequent 12 = .ok (.if_icmp .ge 71, 3) := by decide +kernel
theorem dX0_moreFrequent_15 : decode cX0_moreFrequent 15 = .ok (.aload_n 0, 1) := by decide +kernel
theorem dX0_moreFrequent_16 : decode cX0_moreFrequent 16 = .ok (.iload 5, 2) := by decide +kernel
theorem dX0_moreFrequent_18 : decode cX0_moreFrequent 18 = .ok (.invokevirtual 40, 3) := by decide +kernel
theorem dX0_moreFrequent_21 : decode cX0_moreFrequent 21 = .ok (.aload_n 0, 1) := by decide +kernel
theorem dX0_moreFrequent_22 : decode cX0_moreFrequent 22 = .ok (.iload_n 3, 1) := by decide +kernel
theorem dX0_moreFrequent_23 : decode cX0_moreFrequent 23 = .ok (.invokevirtual 40, 3) := by decide +kernel
theorem dX0_moreFrequent_26 : decode cX0_moreFrequent 26 = .ok (.if_icmp .gt 23, 3) := by decide +kernel
theorem dX0_moreFrequent_29 : decode cX0_moreFrequent 29 = .ok (.aload_n 0, 1) := by decide +kernel
theorem dX0_moreFrequent_30 : decode cX0_moreFrequent 30 = .ok (.iload 5, 2) := by decide +kernel
theorem dX0_moreFrequent_32 : decode cX0_moreFrequent 32 = .ok (.invokevirtual 40, 3) := by decide +kernel
theorem dX0_moreFrequent_35 : decode cX0_moreFrequent 35 = .ok (.aload_n 0, 1) := by decide +kernel
theorem dX0_moreFrequent_36 : decode cX0_moreFrequent 36 = .ok (.iload_n 3, 1) := by decide +kernel
theorem dX0_moreFrequent_37 : decode cX0_moreFrequent 37 = .ok (.invokevirtual 40, 3) := by decide +kernel
theorem dX0_moreFrequent_40 : decode cX0_moreFrequent 40 = .ok (.if_icmp .ne 13, 3) := by decide +kernel
theorem dX0_moreFrequent_43 : decode cX0_moreFrequent 43 = .ok (.iload 5, 2) := by decide +kernel
theorem dX0_moreFrequent_45 : decode cX0_moreFrequent 45 = .ok (.iload_n 3, 1) := by decide +kernel
theorem dX0_moreFrequent_46 : decode cX0_moreFrequent 46 = .ok (.if_icmp .ge 7, 3) := by decide +kernel
theorem dX0_moreFrequent_49 : decode cX0_moreFrequent 49 = .ok (.iconst 1, 1) := by decide +kernel
theorem dX0_moreFrequent_50 : decode cX0_moreFrequent 50 = .ok (.goto 4, 3) := by decide +kernel
theorem dX0_moreFrequent_53 : decode cX0_moreFrequent 53 = .ok (.iconst 0, 1) := by decide +kernel
theorem dX0_moreFrequent_54 : decode cX0_moreFrequent 54 = .ok (.istore 6, 2) := by decide +kernel
theorem dX0_moreFrequent_56 : decode cX0_moreFrequent 56 = .ok (.iload 6, 2) := by decide +kernel
theorem dX0_moreFrequent_58 : decode cX0_moreFrequent 58 = .ok (.ifCond .eq 19, 3) := by decide +kernel
theorem dX0_moreFrequent_61 : decode cX0_moreFrequent 61 = .ok (.lload_n 1, 1) := by decide +kernel
theorem dX0_moreFrequent_62 : decode cX0_moreFrequent 62 = .ok (.aload_n 0, 1) := by decide +kernel
theorem dX0_moreFrequent_63 : decode cX0_moreFrequent 63 = .ok (.iload 5, 2) := by decide +kernel
theorem dX0_moreFrequent_65 : decode cX0_moreFrequent 65 = .ok (.invokevirtual 32, 3) := by decide +kernel
theorem dX0_moreFrequent_68 : decode cX0_moreFrequent 68 = .ok (.invokestatic 84, 3) := by decide +kernel
theorem dX0_moreFrequent_71 : decode cX0_moreFrequent 71 = .ok (.ifCond .eq 6, 3) := by decide +kernel
theorem dX0_moreFrequent_74 : decode cX0_moreFrequent 74 = .ok (.iinc 4 1, 3) := by decide +kernel
theorem dX0_moreFrequent_77 : decode cX0_moreFrequent 77 = .ok (.iinc 5 1, 3) := by decide +kernel
theorem dX0_moreFrequent_80 : decode cX0_moreFrequent 80 = .ok (.goto (-74), 3) := by decide +kernel
theorem dX0_moreFrequent_83 : decode cX0_moreFrequent 83 = .ok (.iload 4, 2) := by decide +kernel
theorem dX0_moreFrequent_85 : decode cX0_moreFrequent 85 = .ok (.ireturn, 1) := by decide +kernel
set_option maxRecDepth 20000 in
theorem ggX0_sharedAhead_X0_wordAt : GoodIn wsX0_sharedAhead wsX0_wordAt := goodIn_r _ [5, 6, 7, 8, 9, 4, 10, 11, 22, 23, 24, 25] (by decide +kernel) (by decide +kernel)
set_option maxRecDepth 20000 in
theorem gX0_sharedAhead_X0_wordAt : GoodIn wsX0_sharedAhead (wsV RX0 32 RX0 yX0_wordAt wsX0_wordAt) := goodIn_app (goodIn_of _ (by decide +kernel)) ggX0_sharedAhead_X0_wordAt
set_option maxRecDepth 20000 in
theorem ggX0_sharedAhead_X3_sharedBy : GoodIn wsX0_sharedAhead wsX3_sharedBy := goodIn_r _ [15, 16, 17, 14, 18, 19, 20, 21] (by decide +kernel) (by decide +kernel)
set_option maxRecDepth 20000 in
theorem gX0_sharedAhead_X3_sharedBy : GoodIn wsX0_sharedAhead (va_wsS RX0 61 yX3_sharedBy wsX3_sharedBy) := goodIn_app (goodIn_of _ (by decide +kernel)) ggX0_sharedAhead_X3_sharedBy
theorem dX0_sharedAhead_0 : decode cX0_sharedAhead 0 = .ok (.iload_n 1, 1) := by decide +kernel
theorem dX0_sharedAhead_1 : decode cX0_sharedAhead 1 = .ok (.ifCond .gt 7, 3) := by decide +kernel
theorem dX0_sharedAhead_4 : decode cX0_sharedAhead 4 = .ok (.iconst (-1), 1) := by decide +kernel
theorem dX0_sharedAhead_5 : decode cX0_sharedAhead 5 = .ok (.goto 18, 3) := by decide +kernel
theorem dX0_sharedAhead_8 : decode cX0_sharedAhead 8 = .ok (.aload_n 0, 1) := by decide +kernel
theorem dX0_sharedAhead_9 : decode cX0_sharedAhead 9 = .ok (.iload_n 1, 1) := by decide +kernel
theorem dX0_sharedAhead_10 : decode cX0_sharedAhead 10 = .ok (.iconst 1, 1) := by decide +kernel
theorem dX0_sharedAhead_11 : decode cX0_sharedAhead 11 = .ok (.isub, 1) := by decide +kernel
theorem dX0_sharedAhead_12 : decode cX0_sharedAhead 12 = .ok (.invokevirtual 32, 3) := by decide +kernel
theorem dX0_sharedAhead_15 : decode cX0_sharedAhead 15 = .ok (.aload_n 0, 1) := by decide +kernel
theorem dX0_sharedAhead_16 : decode cX0_sharedAhead 16 = .ok (.iload_n 1, 1) := by decide +kernel
theorem dX0_sharedAhead_17 : decode cX0_sharedAhead 17 = .ok (.invokevirtual 32, 3) := by decide +kernel
theorem dX0_sharedAhead_20 : decode cX0_sharedAhead 20 = .ok (.invokestatic 61, 3) := by decide +kernel
theorem dX0_sharedAhead_23 : decode cX0_sharedAhead 23 = .ok (.ireturn, 1) := by decide +kernel
set_option maxRecDepth 20000 in
theorem ggX0_nodes_X0_depthAt : GoodIn wsX0_nodes wsX0_depthAt := goodIn_r _ [10, 11, 12, 13, 14, 9, 15, 1, 35, 36, 37, 38] (by decide +kernel) (by decide +kernel)
set_option maxRecDepth 20000 in
theorem gX0_nodes_X0_depthAt : GoodIn wsX0_nodes (wsV RX0 65 RX0 yX0_depthAt wsX0_depthAt) := goodIn_app (goodIn_of _ (by decide +kernel)) ggX0_nodes_X0_depthAt
set_option maxRecDepth 20000 in
theorem ggX0_nodes_X0_sharedAhead : GoodIn wsX0_nodes wsX0_sharedAhead := goodIn_r _ [19, 20, 21, 22, 9, 23, 24, 12, 13, 14, 15, 1, 25, 26, 27, 28, 29, 30, 31, 32, 33, 34, 35, 36, 37, 38] (by decide +kernel) (by decide +kernel)
set_option maxRecDepth 20000 in
theorem gX0_nodes_X0_sharedAhead : GoodIn wsX0_nodes (wsV RX0 94 RX0 yX0_sharedAhead wsX0_sharedAhead) := goodIn_app (goodIn_of _ (by decide +kernel)) ggX0_nodes_X0_sharedAhead
theorem dX0_nodes_0 : decode cX0_nodes 0 = .ok (.iconst 0, 1) := by decide +kernel
theorem dX0_nodes_1 : decode cX0_nodes 1 = .ok (.istore_n 1, 1) := by decide +kernel
theorem dX0_nodes_2 : decode cX0_nodes 2 = .ok (.iconst 0, 1) := by decide +kernel
theorem dX0_nodes_3 : decode cX0_nodes 3 = .ok (.istore_n 2, 1) := by decide +kernel
theorem dX0_nodes_4 : decode cX0_nodes 4 = .ok (.iload_n 2, 1) := by decide +kernel
theorem dX0_nodes_5 : decode cX0_nodes 5 = .ok (.aload_n 0, 1) := by decide +kernel
theorem dX0_nodes_6 : decode cX0_nodes 6 = .ok (.getfield 22, 3) := by decide +kernel
theorem dX0_nodes_9 : decode cX0_nodes 9 = .ok (.if_icmp .ge 29, 3) := by decide +kernel
theorem dX0_nodes_12 : decode cX0_nodes 12 = .ok (.iload_n 1, 1) := by decide +kernel
theorem dX0_nodes_13 : decode cX0_nodes 13 = .ok (.iconst 0, 1) := by decide +kernel
theorem dX0_nodes_14 : decode cX0_nodes 14 = .ok (.aload_n 0, 1) := by decide +kernel
theorem dX0_nodes_15 : decode cX0_nodes 15 = .ok (.iload_n 2, 1) := by decide +kernel
theorem dX0_nodes_16 : decode cX0_nodes 16 = .ok (.invokevirtual 65, 3) := by decide +kernel
theorem dX0_nodes_19 : decode cX0_nodes 19 = .ok (.aload_n 0, 1) := by decide +kernel
theorem dX0_nodes_20 : decode cX0_nodes 20 = .ok (.iload_n 2, 1) := by decide +kernel
theorem dX0_nodes_21 : decode cX0_nodes 21 = .ok (.invokevirtual 94, 3) := by decide +kernel
theorem dX0_nodes_24 : decode cX0_nodes 24 = .ok (.iconst 1, 1) := by decide +kernel
theorem dX0_nodes_25 : decode cX0_nodes 25 = .ok (.iadd, 1) := by decide +kernel
theorem dX0_nodes_26 : decode cX0_nodes 26 = .ok (.isub, 1) := by decide +kernel
theorem dX0_nodes_27 : decode cX0_nodes 27 = .ok (.invokestatic 74, 3) := by decide +kernel
theorem dX0_nodes_30 : decode cX0_nodes 30 = .ok (.iadd, 1) := by decide +kernel
theorem dX0_nodes_31 : decode cX0_nodes 31 = .ok (.istore_n 1, 1) := by decide +kernel
theorem dX0_nodes_32 : decode cX0_nodes 32 = .ok (.iinc 2 1, 3) := by decide +kernel
theorem dX0_nodes_35 : decode cX0_nodes 35 = .ok (.goto (-31), 3) := by decide +kernel
theorem dX0_nodes_38 : decode cX0_nodes 38 = .ok (.iload_n 1, 1) := by decide +kernel
theorem dX0_nodes_39 : decode cX0_nodes 39 = .ok (.ireturn, 1) := by decide +kernel
set_option maxRecDepth 20000 in
theorem ggX0_isContained_X0_depthAt : GoodIn wsX0_isContained wsX0_depthAt := goodIn_r _ [5, 6, 7, 8, 9, 4, 10, 11, 27, 28, 29, 30] (by decide +kernel) (by decide +kernel)
set_option maxRecDepth 20000 in
theorem gX0_isContained_X0_depthAt : GoodIn wsX0_isContained (wsV RX0 65 RX0 yX0_depthAt wsX0_depthAt) := goodIn_app (goodIn_of _ (by decide +kernel)) ggX0_isContained_X0_depthAt
set_option maxRecDepth 20000 in
theorem ggX0_isContained_X0_wordAt : GoodIn wsX0_isContained wsX0_wordAt := goodIn_r _ [15, 16, 7, 8, 9, 4, 10, 11, 27, 28, 29, 30] (by decide +kernel) (by decide +kernel)
set_option maxRecDepth 20000 in
theorem gX0_isContained_X0_wordAt : GoodIn wsX0_isContained (wsV RX0 32 RX0 yX0_wordAt wsX0_wordAt) := goodIn_app (goodIn_of _ (by decide +kernel)) ggX0_isContained_X0_wordAt
set_option maxRecDepth 20000 in
theorem ggX0_isContained_X3_lengthOf : GoodIn wsX0_isContained wsX3_lengthOf := goodIn_r _ [20, 21, 22, 19, 23, 24, 25, 26] (by decide +kernel) (by decide +kernel)
set_option maxRecDepth 20000 in
theorem gX0_isContained_X3_lengthOf : GoodIn wsX0_isContained (va_wsS RX0 77 yX3_lengthOf wsX3_lengthOf) := goodIn_app (goodIn_of _ (by decide +kernel)) ggX0_isContained_X3_lengthOf
theorem dX0_isContained_0 : decode cX0_isContained 0 = .ok (.aload_n 0, 1) := by decide +kernel
theorem dX0_isContained_1 : decode cX0_isContained 1 = .ok (.iload_n 1, 1) := by decide +kernel
theorem dX0_isContained_2 : decode cX0_isContained 2 = .ok (.invokevirtual 65, 3) := by decide +kernel
theorem dX0_isContained_5 : decode cX0_isContained 5 = .ok (.aload_n 0, 1) := by decide +kernel
theorem dX0_isContained_6 : decode cX0_isContained 6 = .ok (.iload_n 1, 1) := by decide +kernel
theorem dX0_isContained_7 : decode cX0_isContained 7 = .ok (.invokevirtual 32, 3) := by decide +kernel
theorem dX0_isContained_10 : decode cX0_isContained 10 = .ok (.invokestatic 77, 3) := by decide +kernel
theorem dX0_isContained_13 : decode cX0_isContained 13 = .ok (.if_icmp .gt 7, 3) := by decide +kernel
theorem dX0_isContained_16 : decode cX0_isContained 16 = .ok (.iconst 1, 1) := by decide +kernel
theorem dX0_isContained_17 : decode cX0_isContained 17 = .ok (.goto 4, 3) := by decide +kernel
theorem dX0_isContained_20 : decode cX0_isContained 20 = .ok (.iconst 0, 1) := by decide +kernel
theorem dX0_isContained_21 : decode cX0_isContained 21 = .ok (.ireturn, 1) := by decide +kernel
set_option maxRecDepth 20000 in
theorem ggX0_opensContainer_X0_isContained : GoodIn wsX0_opensContainer wsX0_isContained := goodIn_r _ [5, 6, 7, 8, 4, 9, 10, 11, 12, 13, 14, 15, 16, 17, 18, 19, 20, 21, 22, 23, 24, 25, 26, 27, 28, 29, 30, 38, 39, 40, 41] (by decide +kernel) (by decide +kernel)
set_option maxRecDepth 20000 in
theorem gX0_opensContainer_X0_isContained : GoodIn wsX0_opensContainer (wsV RX0 97 RX0 yX0_isContained wsX0_isContained) := goodIn_app (goodIn_of _ (by decide +kernel)) ggX0_opensContainer_X0_isContained
set_option maxRecDepth 20000 in
theorem ggX0_opensContainer_X0_sharedAhead : GoodIn wsX0_opensContainer wsX0_sharedAhead := goodIn_r _ [34, 16, 17, 18, 4, 19, 20, 11, 12, 13, 14, 15, 35, 36, 23, 37, 25, 26, 27, 28, 29, 30, 38, 39, 40, 41] (by decide +kernel) (by decide +kernel)
set_option maxRecDepth 20000 in
theorem gX0_opensContainer_X0_sharedAhead : GoodIn wsX0_opensContainer (wsV RX0 94 RX0 yX0_sharedAhead wsX0_sharedAhead) := goodIn_app (goodIn_of _ (by decide +kernel)) ggX0_opensContainer_X0_sharedAhead
set_option maxRecDepth 20000 in
theorem ggX0_opensContainer_X0_depthAt : GoodIn wsX0_opensContainer wsX0_depthAt := goodIn_r _ [9, 10, 11, 12, 13, 4, 14, 15, 38, 39, 40, 41] (by decide +kernel) (by decide +kernel)
set_option maxRecDepth 20000 in
theorem gX0_opensContainer_X0_depthAt : GoodIn wsX0_opensContainer (wsV RX0 65 RX0 yX0_depthAt wsX0_depthAt) := goodIn_app (goodIn_of _ (by decide +kernel)) ggX0_opensContainer_X0_depthAt
theorem dX0_opensContainer_0 : decode cX0_opensContainer 0 = .ok (.aload_n 0, 1) := by decide +kernel
theorem dX0_opensContainer_1 : decode cX0_opensContainer 1 = .ok (.iload_n 1, 1) := by decide +kernel
theorem dX0_opensContainer_2 : decode cX0_opensContainer 2 = .ok (.invokevirtual 97, 3) := by decide +kernel
theorem dX0_opensContainer_5 : decode cX0_opensContainer 5 = .ok (.ifCond .eq 20, 3) := by decide +kernel
theorem dX0_opensContainer_8 : decode cX0_opensContainer 8 = .ok (.aload_n 0, 1) := by decide +kernel
theorem dX0_opensContainer_9 : decode cX0_opensContainer 9 = .ok (.iload_n 1, 1) := by decide +kernel
theorem dX0_opensContainer_10 : decode cX0_opensContainer 10 = .ok (.invokevirtual 94, 3) := by decide +kernel
theorem dX0_opensContainer_13 : decode cX0_opensContainer 13 = .ok (.aload_n 0, 1) := by decide +kernel
theorem dX0_opensContainer_14 : decode cX0_opensContainer 14 = .ok (.iload_n 1, 1) := by decide +kernel
theorem dX0_opensContainer_15 : decode cX0_opensContainer 15 = .ok (.invokevirtual 65, 3) := by decide +kernel
theorem dX0_opensContainer_18 : decode cX0_opensContainer 18 = .ok (.if_icmp .ge 7, 3) := by decide +kernel
theorem dX0_opensContainer_21 : decode cX0_opensContainer 21 = .ok (.iconst 1, 1) := by decide +kernel
theorem dX0_opensContainer_22 : decode cX0_opensContainer 22 = .ok (.goto 4, 3) := by decide +kernel
theorem dX0_opensContainer_25 : decode cX0_opensContainer 25 = .ok (.iconst 0, 1) := by decide +kernel
theorem dX0_opensContainer_26 : decode cX0_opensContainer 26 = .ok (.ireturn, 1) := by decide +kernel
set_option maxRecDepth 20000 in
theorem ggX0_containers_X0_opensContainer : GoodIn wsX0_containers wsX0_opensContainer := goodIn_r _ [6, 7, 8, 9, 5, 10, 11, 12, 13, 14, 15, 16, 17, 18, 19, 1, 20, 21, 22, 23, 24, 25, 26, 27, 28, 29, 30, 31, 32, 33, 34, 35, 36, 37, 38, 39, 40, 41, 42, 43, 44, 45] (by decide +kernel) (by decide +kernel)
set_option maxRecDepth 20000 in
theorem gX0_containers_X0_opensContainer : GoodIn wsX0_containers (wsV RX0 100 RX0 yX0_opensContainer wsX0_opensContainer) := goodIn_app (goodIn_of _ (by decide +kernel)) ggX0_containers_X0_opensContainer
theorem dX0_containers_0 : decode cX0_containers 0 = .ok (.iconst 0, 1) := by decide +kernel
theorem dX0_containers_1 : decode cX0_containers 1 = .ok (.istore_n 1, 1) := by decide +kernel
theorem dX0_containers_2 : decode cX0_containers 2 = .ok (.iconst 0, 1) := by decide +kernel
theorem dX0_containers_3 : decode cX0_containers 3 = .ok (.istore_n 2, 1) := by decide +kernel
theorem dX0_containers_4 : decode cX0_containers 4 = .ok (.iload_n 2, 1) := by decide +kernel
theorem dX0_containers_5 : decode cX0_containers 5 = .ok (.aload_n 0, 1) := by decide +kernel
theorem dX0_containers_6 : decode cX0_containers 6 = .ok (.getfield 22, 3) := by decide +kernel
theorem dX0_containers_9 : decode cX0_containers 9 = .ok (.if_icmp .ge 20, 3) := by decide +kernel
theorem dX0_containers_12 : decode cX0_containers 12 = .ok (.aload_n 0, 1) := by decide +kernel
theorem dX0_containers_13 : decode cX0_containers 13 = .ok (.iload_n 2, 1) := by decide +kernel
theorem dX0_containers_14 : decode cX0_containers 14 = .ok (.invokevirtual 100, 3) := by decide +kernel
theorem dX0_containers_17 : decode cX0_containers 17 = .ok (.ifCond .eq 6, 3) := by decide +kernel
theorem dX0_containers_20 : decode cX0_containers 20 = .ok (.iinc 1 1, 3) := by decide +kernel
theorem dX0_containers_23 : decode cX0_containers 23 = .ok (.iinc 2 1, 3) := by decide +kernel
theorem dX0_containers_26 : decode cX0_containers 26 = .ok (.goto (-22), 3) := by decide +kernel
theorem dX0_containers_29 : decode cX0_containers 29 = .ok (.iload_n 1, 1) := by decide +kernel
theorem dX0_containers_30 : decode cX0_containers 30 = .ok (.ireturn, 1) := by decide +kernel
set_option maxRecDepth 20000 in
theorem ggX0_fullest_X0_isContained : GoodIn wsX0_fullest wsX0_isContained := goodIn_r _ [10, 11, 12, 13, 9, 14, 15, 16, 17, 18, 19, 1, 20, 21, 22, 23, 24, 25, 26, 27, 28, 29, 30, 31, 32, 33, 34, 46, 47, 48, 49] (by decide +kernel) (by decide +kernel)
set_option maxRecDepth 20000 in
theorem gX0_fullest_X0_isContained : GoodIn wsX0_fullest (wsV RX0 97 RX0 yX0_isContained wsX0_isContained) := goodIn_app (goodIn_of _ (by decide +kernel)) ggX0_fullest_X0_isContained
set_option maxRecDepth 20000 in
theorem ggX0_fullest_X0_opensContainer : GoodIn wsX0_fullest wsX0_opensContainer := goodIn_r _ [38, 6, 7, 8, 9, 10, 11, 12, 13, 14, 15, 16, 17, 18, 19, 1, 20, 21, 22, 23, 24, 25, 26, 27, 28, 29, 30, 31, 32, 33, 34, 39, 40, 41, 42, 43, 44, 45, 46, 47, 48, 49] (by decide +kernel) (by decide +kernel)
set_option maxRecDepth 20000 in
theorem gX0_fullest_X0_opensContainer : GoodIn wsX0_fullest (wsV RX0 100 RX0 yX0_opensContainer wsX0_opensContainer) := goodIn_app (goodIn_of _ (by decide +kernel)) ggX0_fullest_X0_opensContainer
theorem dX0_fullest_0 : decode cX0_fullest 0 = .ok (.iconst 0, 1) := by decide +kernel
theorem dX0_fullest_1 : decode cX0_fullest 1 = .ok (.istore_n 1, 1) := by decide +kernel
theorem dX0_fullest_2 : decode cX0_fullest 2 = .ok (.iconst 0, 1) := by decide +kernel
theorem dX0_fullest_3 : decode cX0_fullest 3 = .ok (.istore_n 2, 1) := by decide +kernel
theorem dX0_fullest_4 : decode cX0_fullest 4 = .ok (.iconst 0, 1) := by decide +kernel
theorem dX0_fullest_5 : decode cX0_fullest 5 = .ok (.istore_n 3, 1) := by decide +kernel
theorem dX0_fullest_6 : decode cX0_fullest 6 = .ok (.iload_n 3, 1) := by decide +kernel
theorem dX0_fullest_7 : decode cX0_fullest 7 = .ok (.aload_n 0, 1) := by decide +kernel
theorem dX0_fullest_8 : decode cX0_fullest 8 = .ok (.getfield 22, 3) := by decide +kernel
theorem dX0_fullest_11 : decode cX0_fullest 11 = .ok (.if_icmp .ge 39, 3) := by decide +kernel
theorem dX0_fullest_14 : decode cX0_fullest 14 = .ok (.aload_n 0, 1) := by decide +kernel
theorem dX0_fullest_15 : decode cX0_fullest 15 = .ok (.iload_n 3, 1) := by decide +kernel
theorem dX0_fullest_16 : decode cX0_fullest 16 = .ok (.invokevirtual 97, 3) := by decide +kernel
theorem dX0_fullest_19 : decode cX0_fullest 19 = .ok (.ifCond .eq 25, 3) := by decide +kernel
theorem dX0_fullest_22 : decode cX0_fullest 22 = .ok (.aload_n 0, 1) := by decide +kernel
theorem dX0_fullest_23 : decode cX0_fullest 23 = .ok (.iload_n 3, 1) := by decide +kernel
theorem dX0_fullest_24 : decode cX0_fullest 24 = .ok (.invokevirtual 100, 3) := by decide +kernel
theorem dX0_fullest_27 : decode cX0_fullest 27 = .ok (.ifCond .eq 7, 3) := by decide +kernel
theorem dX0_fullest_30 : decode cX0_fullest 30 = .ok (.iconst 1, 1) := by decide +kernel
theorem dX0_fullest_31 : decode cX0_fullest 31 = .ok (.goto 6, 3) := by decide +kernel
theorem dX0_fullest_34 : decode cX0_fullest 34 = .ok (.iload_n 2, 1) := by decide +kernel
theorem dX0_fullest_35 : decode cX0_fullest 35 = .ok (.iconst 1, 1) := by decide +kernel
theorem dX0_fullest_36 : decode cX0_fullest 36 = .ok (.iadd, 1) := by decide +kernel
theorem dX0_fullest_37 : decode cX0_fullest 37 = .ok (.istore_n 2, 1) := by decide +kernel
theorem dX0_fullest_38 : decode cX0_fullest 38 = .ok (.iload_n 1, 1) := by decide +kernel
theorem dX0_fullest_39 : decode cX0_fullest 39 = .ok (.iload_n 2, 1) := by decide +kernel
theorem dX0_fullest_40 : decode cX0_fullest 40 = .ok (.invokestatic 74, 3) := by decide +kernel
theorem dX0_fullest_43 : decode cX0_fullest 43 = .ok (.istore_n 1, 1) := by decide +kernel
theorem dX0_fullest_44 : decode cX0_fullest 44 = .ok (.iinc 3 1, 3) := by decide +kernel
theorem dX0_fullest_47 : decode cX0_fullest 47 = .ok (.goto (-41), 3) := by decide +kernel
theorem dX0_fullest_50 : decode cX0_fullest 50 = .ok (.iload_n 1, 1) := by decide +kernel
theorem dX0_fullest_51 : decode cX0_fullest 51 = .ok (.ireturn, 1) := by decide +kernel
set_option maxRecDepth 20000 in
theorem ggX0_deepest_X0_depthAt : GoodIn wsX0_deepest wsX0_depthAt := goodIn_r _ [10, 11, 12, 13, 14, 9, 15, 1, 16, 17, 18, 19] (by decide +kernel) (by decide +kernel)
set_option maxRecDepth 20000 in
theorem gX0_deepest_X0_depthAt : GoodIn wsX0_deepest (wsV RX0 65 RX0 yX0_depthAt wsX0_depthAt) := goodIn_app (goodIn_of _ (by decide +kernel)) ggX0_deepest_X0_depthAt
theorem dX0_deepest_0 : decode cX0_deepest 0 = .ok (.iconst 0, 1) := by decide +kernel
theorem dX0_deepest_1 : decode cX0_deepest 1 = .ok (.istore_n 1, 1) := by decide +kernel
theorem dX0_deepest_2 : decode cX0_deepest 2 = .ok (.iconst 0, 1) := by decide +kernel
theorem dX0_deepest_3 : decode cX0_deepest 3 = .ok (.istore_n 2, 1) := by decide +kernel
theorem dX0_deepest_4 : decode cX0_deepest 4 = .ok (.iload_n 2, 1) := by decide +kernel
theorem dX0_deepest_5 : decode cX0_deepest 5 = .ok (.aload_n 0, 1) := by decide +kernel
theorem dX0_deepest_6 : decode cX0_deepest 6 = .ok (.getfield 22, 3) := by decide +kernel
theorem dX0_deepest_9 : decode cX0_deepest 9 = .ok (.if_icmp .ge 19, 3) := by decide +kernel
theorem dX0_deepest_12 : decode cX0_deepest 12 = .ok (.iload_n 1, 1) := by decide +kernel
theorem dX0_deepest_13 : decode cX0_deepest 13 = .ok (.aload_n 0, 1) := by decide +kernel
theorem dX0_deepest_14 : decode cX0_deepest 14 = .ok (.iload_n 2, 1) := by decide +kernel
theorem dX0_deepest_15 : decode cX0_deepest 15 = .ok (.invokevirtual 65, 3) := by decide +kernel
theorem dX0_deepest_18 : decode cX0_deepest 18 = .ok (.invokestatic 74, 3) := by decide +kernel
theorem dX0_deepest_21 : decode cX0_deepest 21 = .ok (.istore_n 1, 1) := by decide +kernel
theorem dX0_deepest_22 : decode cX0_deepest 22 = .ok (.iinc 2 1, 3) := by decide +kernel
theorem dX0_deepest_25 : decode cX0_deepest 25 = .ok (.goto (-21), 3) := by decide +kernel
theorem dX0_deepest_28 : decode cX0_deepest 28 = .ok (.iload_n 1, 1) := by decide +kernel
theorem dX0_deepest_29 : decode cX0_deepest 29 = .ok (.ireturn, 1) := by decide +kernel
set_option maxRecDepth 20000 in
theorem ggX0_lettersKept_X0_isContained : GoodIn wsX0_lettersKept wsX0_isContained := goodIn_r _ [6, 7, 8, 9, 5, 10, 11, 12, 13, 14, 15, 1, 16, 17, 18, 19, 20, 21, 22, 23, 24, 25, 26, 27, 28, 29, 30, 31, 32, 33, 34] (by decide +kernel) (by decide +kernel)
set_option maxRecDepth 20000 in
theorem gX0_lettersKept_X0_isContained : GoodIn wsX0_lettersKept (wsV RX0 97 RX0 yX0_isContained wsX0_isContained) := goodIn_app (goodIn_of _ (by decide +kernel)) ggX0_lettersKept_X0_isContained
set_option maxRecDepth 20000 in
theorem ggX0_lettersKept_X0_wordAt : GoodIn wsX0_lettersKept wsX0_wordAt := goodIn_r _ [19, 20, 12, 13, 14, 5, 15, 1, 31, 32, 33, 34] (by decide +kernel) (by decide +kernel)
set_option maxRecDepth 20000 in
theorem gX0_lettersKept_X0_wordAt : GoodIn wsX0_lettersKept (wsV RX0 32 RX0 yX0_wordAt wsX0_wordAt) := goodIn_app (goodIn_of _ (by decide +kernel)) ggX0_lettersKept_X0_wordAt
set_option maxRecDepth 20000 in
theorem ggX0_lettersKept_X3_lengthOf : GoodIn wsX0_lettersKept wsX3_lengthOf := goodIn_r _ [24, 25, 26, 23, 27, 28, 29, 30] (by decide +kernel) (by decide +kernel)
set_option maxRecDepth 20000 in
theorem gX0_lettersKept_X3_lengthOf : GoodIn wsX0_lettersKept (va_wsS RX0 77 yX3_lengthOf wsX3_lengthOf) := goodIn_app (goodIn_of _ (by decide +kernel)) ggX0_lettersKept_X3_lengthOf
set_option maxRecDepth 20000 in
theorem ggX0_lettersKept_X0_depthAt : GoodIn wsX0_lettersKept wsX0_depthAt := goodIn_r _ [10, 11, 12, 13, 14, 5, 15, 1, 31, 32, 33, 34] (by decide +kernel) (by decide +kernel)
set_option maxRecDepth 20000 in
theorem gX0_lettersKept_X0_depthAt : GoodIn wsX0_lettersKept (wsV RX0 65 RX0 yX0_depthAt wsX0_depthAt) := goodIn_app (goodIn_of _ (by decide +kernel)) ggX0_lettersKept_X0_depthAt
theorem dX0_lettersKept_0 : decode cX0_lettersKept 0 = .ok (.iconst 0, 1) := by decide +kernel
theorem dX0_lettersKept_1 : decode cX0_lettersKept 1 = .ok (.istore_n 1, 1) := by decide +kernel
theorem dX0_lettersKept_2 : decode cX0_lettersKept 2 = .ok (.iconst 0, 1) := by decide +kernel
theorem dX0_lettersKept_3 : decode cX0_lettersKept 3 = .ok (.istore_n 2, 1) := by decide +kernel
theorem dX0_lettersKept_4 : decode cX0_lettersKept 4 = .ok (.iload_n 2, 1) := by decide +kernel
theorem dX0_lettersKept_5 : decode cX0_lettersKept 5 = .ok (.aload_n 0, 1) := by decide +kernel
theorem dX0_lettersKept_6 : decode cX0_lettersKept 6 = .ok (.getfield 22, 3) := by decide +kernel
theorem dX0_lettersKept_9 : decode cX0_lettersKept 9 = .ok (.if_icmp .ge 34, 3) := by decide +kernel
theorem dX0_lettersKept_12 : decode cX0_lettersKept 12 = .ok (.aload_n 0, 1) := by decide +kernel
theorem dX0_lettersKept_13 : decode cX0_lettersKept 13 = .ok (.iload_n 2, 1) := by decide +kernel
theorem dX0_lettersKept_14 : decode cX0_lettersKept 14 = .ok (.invokevirtual 97, 3) := by decide +kernel
theorem dX0_lettersKept_17 : decode cX0_lettersKept 17 = .ok (.ifCond .eq 20, 3) := by decide +kernel
theorem dX0_lettersKept_20 : decode cX0_lettersKept 20 = .ok (.iload_n 1, 1) := by decide +kernel
theorem dX0_lettersKept_21 : decode cX0_lettersKept 21 = .ok (.aload_n 0, 1) := by decide +kernel
theorem dX0_lettersKept_22 : decode cX0_lettersKept 22 = .ok (.iload_n 2, 1) := by decide +kernel
theorem dX0_lettersKept_23 : decode cX0_lettersKept 23 = .ok (.invokevirtual 32, 3) := by decide +kernel
theorem dX0_lettersKept_26 : decode cX0_lettersKept 26 = .ok (.invokestatic 77, 3) := by decide +kernel
theorem dX0_lettersKept_29 : decode cX0_lettersKept 29 = .ok (.aload_n 0, 1) := by decide +kernel
theorem dX0_lettersKept_30 : decode cX0_lettersKept 30 = .ok (.iload_n 2, 1) := by decide +kernel
theorem dX0_lettersKept_31 : decode cX0_lettersKept 31 = .ok (.invokevirtual 65, 3) := by decide +kernel
theorem dX0_lettersKept_34 : decode cX0_lettersKept 34 = .ok (.isub, 1) := by decide +kernel
theorem dX0_lettersKept_35 : decode cX0_lettersKept 35 = .ok (.iadd, 1) := by decide +kernel
theorem dX0_lettersKept_36 : decode cX0_lettersKept 36 = .ok (.istore_n 1, 1) := by decide +kernel
theorem dX0_lettersKept_37 : decode cX0_lettersKept 37 = .ok (.iinc 2 1, 3) := by decide +kernel
theorem dX0_lettersKept_40 : decode cX0_lettersKept 40 = .ok (.goto (-36), 3) := by decide +kernel
theorem dX0_lettersKept_43 : decode cX0_lettersKept 43 = .ok (.iload_n 1, 1) := by decide +kernel
theorem dX0_lettersKept_44 : decode cX0_lettersKept 44 = .ok (.ireturn, 1) := by decide +kernel
set_option maxRecDepth 20000 in
theorem ggX0_mostShared_X0_sharedAhead : GoodIn wsX0_mostShared wsX0_sharedAhead := goodIn_r _ [10, 11, 12, 13, 9, 14, 15, 16, 17, 18, 19, 1, 20, 21, 22, 23, 24, 25, 26, 27, 28, 29, 30, 31, 32, 33] (by decide +kernel) (by decide +kernel)
set_option maxRecDepth 20000 in
theorem gX0_mostShared_X0_sharedAhead : GoodIn wsX0_mostShared (wsV RX0 94 RX0 yX0_sharedAhead wsX0_sharedAhead) := goodIn_app (goodIn_of _ (by decide +kernel)) ggX0_mostShared_X0_sharedAhead
theorem dX0_mostShared_0 : decode cX0_mostShared 0 = .ok (.iconst 0, 1) := by decide +kernel
theorem dX0_mostShared_1 : decode cX0_mostShared 1 = .ok (.istore_n 1, 1) := by decide +kernel
theorem dX0_mostShared_2 : decode cX0_mostShared 2 = .ok (.iconst 1, 1) := by decide +kernel
theorem dX0_mostShared_3 : decode cX0_mostShared 3 = .ok (.istore_n 2, 1) := by decide +kernel
theorem dX0_mostShared_4 : decode cX0_mostShared 4 = .ok (.iload_n 2, 1) := by decide +kernel
theorem dX0_mostShared_5 : decode cX0_mostShared 5 = .ok (.aload_n 0, 1) := by decide +kernel
theorem dX0_mostShared_6 : decode cX0_mostShared 6 = .ok (.getfield 22, 3) := by decide +kernel
theorem dX0_mostShared_9 : decode cX0_mostShared 9 = .ok (.if_icmp .ge 19, 3) := by decide +kernel
theorem dX0_mostShared_12 : decode cX0_mostShared 12 = .ok (.iload_n 1, 1) := by decide +kernel
theorem dX0_mostShared_13 : decode cX0_mostShared 13 = .ok (.aload_n 0, 1) := by decide +kernel
theorem dX0_mostShared_14 : decode cX0_mostShared 14 = .ok (.iload_n 2, 1) := by decide +kernel
theorem dX0_mostShared_15 : decode cX0_mostShared 15 = .ok (.invokevirtual 94, 3) := by decide +kernel
theorem dX0_mostShared_18 : decode cX0_mostShared 18 = .ok (.invokestatic 74, 3) := by decide +kernel
theorem dX0_mostShared_21 : decode cX0_mostShared 21 = .ok (.istore_n 1, 1) := by decide +kernel
theorem dX0_mostShared_22 : decode cX0_mostShared 22 = .ok (.iinc 2 1, 3) := by decide +kernel
theorem dX0_mostShared_25 : decode cX0_mostShared 25 = .ok (.goto (-21), 3) := by decide +kernel
theorem dX0_mostShared_28 : decode cX0_mostShared 28 = .ok (.iload_n 1, 1) := by decide +kernel
theorem dX0_mostShared_29 : decode cX0_mostShared 29 = .ok (.ireturn, 1) := by decide +kernel
set_option maxRecDepth 20000 in
theorem ggX0_pairsSharing_X0_sharedAhead : GoodIn wsX0_pairsSharing wsX0_sharedAhead := goodIn_r _ [6, 7, 8, 9, 5, 10, 11, 12, 13, 14, 15, 1, 16, 17, 18, 19, 20, 21, 22, 23, 24, 25, 26, 27, 28, 29] (by decide +kernel) (by decide +kernel)
set_option maxRecDepth 20000 in
theorem gX0_pairsSharing_X0_sharedAhead : GoodIn wsX0_pairsSharing (wsV RX0 94 RX0 yX0_sharedAhead wsX0_sharedAhead) := goodIn_app (goodIn_of _ (by decide +kernel)) ggX0_pairsSharing_X0_sharedAhead
theorem dX0_pairsSharing_0 : decode cX0_pairsSharing 0 = .ok (.iconst 0, 1) := by decide +kernel
theorem dX0_pairsSharing_1 : decode cX0_pairsSharing 1 = .ok (.istore_n 2, 1) := by decide +kernel
theorem dX0_pairsSharing_2 : decode cX0_pairsSharing 2 = .ok (.iconst 1, 1) := by decide +kernel
theorem dX0_pairsSharing_3 : decode cX0_pairsSharing 3 = .ok (.istore_n 3, 1) := by decide +kernel
theorem dX0_pairsSharing_4 : decode cX0_pairsSharing 4 = .ok (.iload_n 3, 1) := by decide +kernel
theorem dX0_pairsSharing_5 : decode cX0_pairsSharing 5 = .ok (.aload_n 0, 1) := by decide +kernel
theorem dX0_pairsSharing_6 : decode cX0_pairsSharing 6 = .ok (.getfield 22, 3) := by decide +kernel
theorem dX0_pairsSharing_9 : decode cX0_pairsSharing 9 = .ok (.if_icmp .ge 21, 3) := by decide +kernel
theorem dX0_pairsSharing_12 : decode cX0_pairsSharing 12 = .ok (.aload_n 0, 1) := by decide +kernel
theorem dX0_pairsSharing_13 : decode cX0_pairsSharing 13 = .ok (.iload_n 3, 1) := by decide +kernel
theorem dX0_pairsSharing_14 : decode cX0_pairsSharing 14 = .ok (.invokevirtual 94, 3) := by decide +kernel
theorem dX0_pairsSharing_17 : decode cX0_pairsSharing 17 = .ok (.iload_n 1, 1) := by decide +kernel
theorem dX0_pairsSharing_18 : decode cX0_pairsSharing 18 = .ok (.if_icmp .ne 6, 3) := by decide +kernel
theorem dX0_pairsSharing_21 : decode cX0_pairsSharing 21 = .ok (.iinc 2 1, 3) := by decide +kernel
theorem dX0_pairsSharing_24 : decode cX0_pairsSharing 24 = .ok (.iinc 3 1, 3) := by decide +kernel
theorem dX0_pairsSharing_27 : decode cX0_pairsSharing 27 = .ok (.goto (-23), 3) := by decide +kernel
theorem dX0_pairsSharing_30 : decode cX0_pairsSharing 30 = .ok (.iload_n 2, 1) := by decide +kernel
theorem dX0_pairsSharing_31 : decode cX0_pairsSharing 31 = .ok (.ireturn, 1) := by decide +kernel
end
section
theorem dX1_init_0 : decode cX1_init 0 = .ok (.aload_n 0, 1) := by decide +kernel
theorem dX1_init_1 : decode cX1_init 1 = .ok (.invokespecial 3, 3) := by decide +kernel
theorem dX1_init_4 : decode cX1_init 4 = .ok (.aload_n 0, 1) := by decide +kernel
theorem dX1_init_5 : decode cX1_init 5 = .ok (.bipush 12, 2) := by decide +kernel
theorem dX1_init_7 : decode cX1_init 7 = .ok (.newarray .long, 2) := by decide +kernel
theorem dX1_init_9 : decode cX1_init 9 = .ok (.putfield 9, 3) := by decide +kernel
theorem dX1_init_12 : decode cX1_init 12 = .ok (.aload_n 0, 1) := by decide +kernel
theorem dX1_init_13 : decode cX1_init 13 = .ok (.bipush 12, 2) := by decide +kernel
theorem dX1_init_15 : decode cX1_init 15 = .ok (.newarray .int, 2) := by decide +kernel
theorem dX1_init_17 : decode cX1_init 17 = .ok (.putfield 15, 3) := by decide +kernel
theorem dX1_init_20 : decode cX1_init 20 = .ok (.aload_n 0, 1) := by decide +kernel
theorem dX1_init_21 : decode cX1_init 21 = .ok (.bipush 12, 2) := by decide +kernel
theorem dX1_init_23 : decode cX1_init 23 = .ok (.newarray .int, 2) := by decide +kernel
theorem dX1_init_25 : decode cX1_init 25 = .ok (.putfield 19, 3) := by decide +kernel
theorem dX1_init_28 : decode cX1_init 28 = .ok (.aload_n 0, 1) := by decide +kernel
theorem dX1_init_29 : decode cX1_init 29 = .ok (.iconst 0, 1) := by decide +kernel
theorem dX1_init_30 : decode cX1_init 30 = .ok (.putfield 22, 3) := by decide +kernel
theorem dX1_init_33 : decode cX1_init 33 = .ok (.return_, 1) := by decide +kernel
theorem dX1_size_0 : decode cX1_size 0 = .ok (.aload_n 0, 1) := by decide +kernel
theorem dX1_size_1 : decode cX1_size 1 = .ok (.getfield 22, 3) := by decide +kernel
theorem dX1_size_4 : decode cX1_size 4 = .ok (.ireturn, 1) := by decide +kernel
theorem dX1_empty_0 : decode cX1_empty 0 = .ok (.aload_n 0, 1) := by decide +kernel
theorem dX1_empty_1 : decode cX1_empty 1 = .ok (.iconst 0, 1) := by decide +kernel
theorem dX1_empty_2 : decode cX1_empty 2 = .ok (.putfield 22, 3) := by decide +kernel
theorem dX1_empty_5 : decode cX1_empty 5 = .ok (.return_, 1) := by decide +kernel
set_option maxRecDepth 20000 in
theorem ggX1_push_X1_loseOldest : GoodIn wsX1_push wsX1_loseOldest := goodIn_r _ [9, 1, 2, 10, 11, 12, 13, 3, 4, 14, 15, 16, 17] (by decide +kernel) (by decide +kernel)
set_option maxRecDepth 20000 in
theorem gX1_push_X1_loseOldest : GoodIn wsX1_push (wsV RX1 26 RX1 yX1_loseOldest wsX1_loseOldest) := goodIn_app (goodIn_of _ (by decide +kernel)) ggX1_push_X1_loseOldest
theorem dX1_push_0 : decode cX1_push 0 = .ok (.aload_n 0, 1) := by decide +kernel
theorem dX1_push_1 : decode cX1_push 1 = .ok (.getfield 22, 3) := by decide +kernel
theorem dX1_push_4 : decode cX1_push 4 = .ok (.bipush 12, 2) := by decide +kernel
theorem dX1_push_6 : decode cX1_push 6 = .ok (.if_icmp .lt 7, 3) := by decide +kernel
theorem dX1_push_9 : decode cX1_push 9 = .ok (.aload_n 0, 1) := by decide +kernel
theorem dX1_push_10 : decode cX1_push 10 = .ok (.invokevirtual 26, 3) := by decide +kernel
theorem dX1_push_13 : decode cX1_push 13 = .ok (.aload_n 0, 1) := by decide +kernel
theorem dX1_push_14 : decode cX1_push 14 = .ok (.getfield 9, 3) := by decide +kernel
theorem dX1_push_17 : decode cX1_push 17 = .ok (.aload_n 0, 1) := by decide +kernel
theorem dX1_push_18 : decode cX1_push 18 = .ok (.getfield 22, 3) := by decide +kernel
theorem dX1_push_21 : decode cX1_push 21 = .ok (.lload_n 1, 1) := by decide +kernel
theorem dX1_push_22 : decode cX1_push 22 = .ok (.lastore, 1) := by decide +kernel
theorem dX1_push_23 : decode cX1_push 23 = .ok (.aload_n 0, 1) := by decide +kernel
theorem dX1_push_24 : decode cX1_push 24 = .ok (.getfield 15, 3) := by decide +kernel
theorem dX1_push_27 : decode cX1_push 27 = .ok (.aload_n 0, 1) := by decide +kernel
theorem dX1_push_28 : decode cX1_push 28 = .ok (.getfield 22, 3) := by decide +kernel
theorem dX1_push_31 : decode cX1_push 31 = .ok (.iload_n 3, 1) := by decide +kernel
theorem dX1_push_32 : decode cX1_push 32 = .ok (.iastore, 1) := by decide +kernel
theorem dX1_push_33 : decode cX1_push 33 = .ok (.aload_n 0, 1) := by decide +kernel
theorem dX1_push_34 : decode cX1_push 34 = .ok (.getfield 19, 3) := by decide +kernel
theorem dX1_push_37 : decode cX1_push 37 = .ok (.aload_n 0, 1) := by decide +kernel
theorem dX1_push_38 : decode cX1_push 38 = .ok (.getfield 22, 3) := by decide +kernel
theorem dX1_push_41 : decode cX1_push 41 = .ok (.iload 4, 2) := by decide +kernel
theorem dX1_push_43 : decode cX1_push 43 = .ok (.iastore, 1) := by decide +kernel
theorem dX1_push_44 : decode cX1_push 44 = .ok (.aload_n 0, 1) := by decide +kernel
theorem dX1_push_45 : decode cX1_push 45 = .ok (.dup, 1) := by decide +kernel
theorem dX1_push_46 : decode cX1_push 46 = .ok (.getfield 22, 3) := by decide +kernel
theorem dX1_push_49 : decode cX1_push 49 = .ok (.iconst 1, 1) := by decide +kernel
theorem dX1_push_50 : decode cX1_push 50 = .ok (.iadd, 1) := by decide +kernel
theorem dX1_push_51 : decode cX1_push 51 = .ok (.putfield 22, 3) := by decide +kernel
theorem dX1_push_54 : decode cX1_push 54 = .ok (.return_, 1) := by decide +kernel
theorem dX1_loseOldest_0 : decode cX1_loseOldest 0 = .ok (.aload_n 0, 1) := by decide +kernel
theorem dX1_loseOldest_1 : decode cX1_loseOldest 1 = .ok (.bipush 11, 2) := by decide +kernel
theorem dX1_loseOldest_3 : decode cX1_loseOldest 3 = .ok (.putfield 22, 3) := by decide +kernel
theorem dX1_loseOldest_6 : decode cX1_loseOldest 6 = .ok (.aload_n 0, 1) := by decide +kernel
theorem dX1_loseOldest_7 : decode cX1_loseOldest 7 = .ok (.getfield 9, 3) := by decide +kernel
theorem dX1_loseOldest_10 : decode cX1_loseOldest 10 = .ok (.iconst 1, 1) := by decide +kernel
theorem dX1_loseOldest_11 : decode cX1_loseOldest 11 = .ok (.aload_n 0, 1) := by decide +kernel
theorem dX1_loseOldest_12 : decode cX1_loseOldest 12 = .ok (.getfield 9, 3) := by decide +kernel
theorem dX1_loseOldest_15 : decode cX1_loseOldest 15 = .ok (.iconst 0, 1) := by decide +kernel
theorem dX1_loseOldest_16 : decode cX1_loseOldest 16 = .ok (.aload_n 0, 1) := by decide +kernel
theorem dX1_loseOldest_17 : decode cX1_loseOldest 17 = .ok (.getfield 22, 3) := by decide +kernel
theorem dX1_loseOldest_20 : decode cX1_loseOldest 20 = .ok (.invokestatic 29, 3) := by decide +kernel
theorem dX1_loseOldest_23 : decode cX1_loseOldest 23 = .ok (.aload_n 0, 1) := by decide +kernel
theorem dX1_loseOldest_24 : decode cX1_loseOldest 24 = .ok (.getfield 15, 3) := by decide +kernel
theorem dX1_loseOldest_27 : decode cX1_loseOldest 27 = .ok (.iconst 1, 1) := by decide +kernel
theorem dX1_loseOldest_28 : decode cX1_loseOldest 28 = .ok (.aload_n 0, 1) := by decide +kernel
theorem dX1_loseOldest_29 : decode cX1_loseOldest 29 = .ok (.getfield 15, 3) := by decide +kernel
theorem dX1_loseOldest_32 : decode cX1_loseOldest 32 = .ok (.iconst 0, 1) := by decide +kernel
theorem dX1_loseOldest_33 : decode cX1_loseOldest 33 = .ok (.aload_n 0, 1) := by decide +kernel
theorem dX1_loseOldest_34 : decode cX1_loseOldest 34 = .ok (.getfield 22, 3) := by decide +kernel
theorem dX1_loseOldest_37 : decode cX1_loseOldest 37 = .ok (.invokestatic 29, 3) := by decide +kernel
theorem dX1_loseOldest_40 : decode cX1_loseOldest 40 = .ok (.aload_n 0, 1) := by decide +kernel
theorem dX1_loseOldest_41 : decode cX1_loseOldest 41 = .ok (.getfield 19, 3) := by decide +kernel
theorem dX1_loseOldest_44 : decode cX1_loseOldest 44 = .ok (.iconst 1, 1) := by decide +kernel
theorem dX1_loseOldest_45 : decode cX1_loseOldest 45 = .ok (.aload_n 0, 1) := by decide +kernel
theorem dX1_loseOldest_46 : decode cX1_loseOldest 46 = .ok (.getfield 19, 3) := by decide +kernel
theorem dX1_loseOldest_49 : decode cX1_loseOldest 49 = .ok (.iconst 0, 1) := by decide +kernel
theorem dX1_loseOldest_50 : decode cX1_loseOldest 50 = .ok (.aload_n 0, 1) := by decide +kernel
theorem dX1_loseOldest_51 : decode cX1_loseOldest 51 = .ok (.getfield 22, 3) := by decide +kernel
theorem dX1_loseOldest_54 : decode cX1_loseOldest 54 = .ok (.invokestatic 29, 3) := by decide +kernel
theorem dX1_loseOldest_57 : decode cX1_loseOldest 57 = .ok (.return_, 1) := by decide +kernel
theorem dX1_hasLast_0 : decode cX1_hasLast 0 = .ok (.aload_n 0, 1) := by decide +kernel
theorem dX1_hasLast_1 : decode cX1_hasLast 1 = .ok (.getfield 22, 3) := by decide +kernel
theorem dX1_hasLast_4 : decode cX1_hasLast 4 = .ok (.ifCond .le 16, 3) := by decide +kernel
theorem dX1_hasLast_7 : decode cX1_hasLast 7 = .ok (.aload_n 0, 1) := by decide +kernel
theorem dX1_hasLast_8 : decode cX1_hasLast 8 = .ok (.getfield 22, 3) := by decide +kernel
theorem dX1_hasLast_11 : decode cX1_hasLast 11 = .ok (.bipush 12, 2) := by decide +kernel
theorem dX1_hasLast_13 : decode cX1_hasLast 13 = .ok (.if_icmp .gt 7, 3) := by decide +kernel
theorem dX1_hasLast_16 : decode cX1_hasLast 16 = .ok (.iconst 1, 1) := by decide +kernel
theorem dX1_hasLast_17 : decode cX1_hasLast 17 = .ok (.goto 4, 3) := by decide +kernel
theorem dX1_hasLast_20 : decode cX1_hasLast 20 = .ok (.iconst 0, 1) := by decide +kernel
theorem dX1_hasLast_21 : decode cX1_hasLast 21 = .ok (.ireturn, 1) := by decide +kernel
set_option maxRecDepth 20000 in
theorem ggX1_lastWord_X1_hasLast : GoodIn wsX1_lastWord wsX1_hasLast := goodIn_r _ [7, 2, 8, 9, 10, 11] (by decide +kernel) (by decide +kernel)
set_option maxRecDepth 20000 in
theorem gX1_lastWord_X1_hasLast : GoodIn wsX1_lastWord (wsV RX1 35 RX1 yX1_hasLast wsX1_hasLast) := goodIn_app (goodIn_of _ (by decide +kernel)) ggX1_lastWord_X1_hasLast
theorem dX1_lastWord_0 : decode cX1_lastWord 0 = .ok (.aload_n 0, 1) := by decide +kernel
theorem dX1_lastWord_1 : decode cX1_lastWord 1 = .ok (.invokevirtual 35, 3) := by decide +kernel
theorem dX1_lastWord_4 : decode cX1_lastWord 4 = .ok (.ifCond .eq 17, 3) := by decide +kernel
theorem dX1_lastWord_7 : decode cX1_lastWord 7 = .ok (.aload_n 0, 1) := by decide +kernel
theorem dX1_lastWord_8 : decode cX1_lastWord 8 = .ok (.getfield 9, 3) := by decide +kernel
theorem dX1_lastWord_11 : decode cX1_lastWord 11 = .ok (.aload_n 0, 1) := by decide +kernel
theorem dX1_lastWord_12 : decode cX1_lastWord 12 = .ok (.getfield 22, 3) := by decide +kernel
theorem dX1_lastWord_15 : decode cX1_lastWord 15 = .ok (.iconst 1, 1) := by decide +kernel
theorem dX1_lastWord_16 : decode cX1_lastWord 16 = .ok (.isub, 1) := by decide +kernel
theorem dX1_lastWord_17 : decode cX1_lastWord 17 = .ok (.laload, 1) := by decide +kernel
theorem dX1_lastWord_18 : decode cX1_lastWord 18 = .ok (.goto 4, 3) := by decide +kernel
theorem dX1_lastWord_21 : decode cX1_lastWord 21 = .ok (.lconst 0, 1) := by decide +kernel
theorem dX1_lastWord_22 : decode cX1_lastWord 22 = .ok (.lreturn, 1) := by decide +kernel
set_option maxRecDepth 20000 in
theorem ggX1_lastOften_X1_hasLast : GoodIn wsX1_lastOften wsX1_hasLast := goodIn_r _ [7, 2, 8, 9, 10, 11] (by decide +kernel) (by decide +kernel)
set_option maxRecDepth 20000 in
theorem gX1_lastOften_X1_hasLast : GoodIn wsX1_lastOften (wsV RX1 35 RX1 yX1_hasLast wsX1_hasLast) := goodIn_app (goodIn_of _ (by decide +kernel)) ggX1_lastOften_X1_hasLast
theorem dX1_lastOften_0 : decode cX1_lastOften 0 = .ok (.aload_n 0, 1) := by decide +kernel
theorem dX1_lastOften_1 : decode cX1_lastOften 1 = .ok (.invokevirtual 35, 3) := by decide +kernel
theorem dX1_lastOften_4 : decode cX1_lastOften 4 = .ok (.ifCond .eq 17, 3) := by decide +kernel
theorem dX1_lastOften_7 : decode cX1_lastOften 7 = .ok (.aload_n 0, 1) := by decide +kernel
theorem dX1_lastOften_8 : decode cX1_lastOften 8 = .ok (.getfield 15, 3) := by decide +kernel
theorem dX1_lastOften_11 : decode cX1_lastOften 11 = .ok (.aload_n 0, 1) := by decide +kernel
theorem dX1_lastOften_12 : decode cX1_lastOften 12 = .ok (.getfield 22, 3) := by decide +kernel
theorem dX1_lastOften_15 : decode cX1_lastOften 15 = .ok (.iconst 1, 1) := by decide +kernel
theorem dX1_lastOften_16 : decode cX1_lastOften 16 = .ok (.isub, 1) := by decide +kernel
theorem dX1_lastOften_17 : decode cX1_lastOften 17 = .ok (.iaload, 1) := by decide +kernel
theorem dX1_lastOften_18 : decode cX1_lastOften 18 = .ok (.goto 4, 3) := by decide +kernel
theorem dX1_lastOften_21 : decode cX1_lastOften 21 = .ok (.iconst 0, 1) := by decide +kernel
theorem dX1_lastOften_22 : decode cX1_lastOften 22 = .ok (.ireturn, 1) := by decide +kernel
set_option maxRecDepth 20000 in
theorem ggX1_lastDepth_X1_hasLast : GoodIn wsX1_lastDepth wsX1_hasLast := goodIn_r _ [7, 2, 8, 9, 10, 11] (by decide +kernel) (by decide +kernel)
set_option maxRecDepth 20000 in
theorem gX1_lastDepth_X1_hasLast : GoodIn wsX1_lastDepth (wsV RX1 35 RX1 yX1_hasLast wsX1_hasLast) := goodIn_app (goodIn_of _ (by decide +kernel)) ggX1_lastDepth_X1_hasLast
theorem dX1_lastDepth_0 : decode cX1_lastDepth 0 = .ok (.aload_n 0, 1) := by decide +kernel
theorem dX1_lastDepth_1 : decode cX1_lastDepth 1 = .ok (.invokevirtual 35, 3) := by decide +kernel
theorem dX1_lastDepth_4 : decode cX1_lastDepth 4 = .ok (.ifCond .eq 17, 3) := by decide +kernel
theorem dX1_lastDepth_7 : decode cX1_lastDepth 7 = .ok (.aload_n 0, 1) := by decide +kernel
theorem dX1_lastDepth_8 : decode cX1_lastDepth 8 = .ok (.getfield 19, 3) := by decide +kernel
theorem dX1_lastDepth_11 : decode cX1_lastDepth 11 = .ok (.aload_n 0, 1) := by decide +kernel
theorem dX1_lastDepth_12 : decode cX1_lastDepth 12 = .ok (.getfield 22, 3) := by decide +kernel
theorem dX1_lastDepth_15 : decode cX1_lastDepth 15 = .ok (.iconst 1, 1) := by decide +kernel
theorem dX1_lastDepth_16 : decode cX1_lastDepth 16 = .ok (.isub, 1) := by decide +kernel
theorem dX1_lastDepth_17 : decode cX1_lastDepth 17 = .ok (.iaload, 1) := by decide +kernel
theorem dX1_lastDepth_18 : decode cX1_lastDepth 18 = .ok (.goto 4, 3) := by decide +kernel
theorem dX1_lastDepth_21 : decode cX1_lastDepth 21 = .ok (.iconst 0, 1) := by decide +kernel
theorem dX1_lastDepth_22 : decode cX1_lastDepth 22 = .ok (.ireturn, 1) := by decide +kernel
set_option maxRecDepth 20000 in
theorem ggX1_drop_X1_hasLast : GoodIn wsX1_drop wsX1_hasLast := goodIn_r _ [6, 1, 7, 8, 9, 10] (by decide +kernel) (by decide +kernel)
set_option maxRecDepth 20000 in
theorem gX1_drop_X1_hasLast : GoodIn wsX1_drop (wsV RX1 35 RX1 yX1_hasLast wsX1_hasLast) := goodIn_app (goodIn_of _ (by decide +kernel)) ggX1_drop_X1_hasLast
theorem dX1_drop_0 : decode cX1_drop 0 = .ok (.aload_n 0, 1) := by decide +kernel
theorem dX1_drop_1 : decode cX1_drop 1 = .ok (.invokevirtual 35, 3) := by decide +kernel
theorem dX1_drop_4 : decode cX1_drop 4 = .ok (.ifCond .eq 13, 3) := by decide +kernel
theorem dX1_drop_7 : decode cX1_drop 7 = .ok (.aload_n 0, 1) := by decide +kernel
theorem dX1_drop_8 : decode cX1_drop 8 = .ok (.dup, 1) := by decide +kernel
theorem dX1_drop_9 : decode cX1_drop 9 = .ok (.getfield 22, 3) := by decide +kernel
theorem dX1_drop_12 : decode cX1_drop 12 = .ok (.iconst 1, 1) := by decide +kernel
theorem dX1_drop_13 : decode cX1_drop 13 = .ok (.isub, 1) := by decide +kernel
theorem dX1_drop_14 : decode cX1_drop 14 = .ok (.putfield 22, 3) := by decide +kernel
theorem dX1_drop_17 : decode cX1_drop 17 = .ok (.return_, 1) := by decide +kernel
theorem dX2_init_0 : decode cX2_init 0 = .ok (.aload_n 0, 1) := by decide +kernel
theorem dX2_init_1 : decode cX2_init 1 = .ok (.invokespecial 3, 3) := by decide +kernel
theorem dX2_init_4 : decode cX2_init 4 = .ok (.aload_n 0, 1) := by decide +kernel
theorem dX2_init_5 : decode cX2_init 5 = .ok (.bipush 8, 2) := by decide +kernel
theorem dX2_init_7 : decode cX2_init 7 = .ok (.newarray .int, 2) := by decide +kernel
theorem dX2_init_9 : decode cX2_init 9 = .ok (.putfield 9, 3) := by decide +kernel
theorem dX2_init_12 : decode cX2_init 12 = .ok (.aload_n 0, 1) := by decide +kernel
theorem dX2_init_13 : decode cX2_init 13 = .ok (.bipush 8, 2) := by decide +kernel
theorem dX2_init_15 : decode cX2_init 15 = .ok (.newarray .int, 2) := by decide +kernel
theorem dX2_init_17 : decode cX2_init 17 = .ok (.putfield 15, 3) := by decide +kernel
theorem dX2_init_20 : decode cX2_init 20 = .ok (.aload_n 0, 1) := by decide +kernel
theorem dX2_init_21 : decode cX2_init 21 = .ok (.bipush 8, 2) := by decide +kernel
theorem dX2_init_23 : decode cX2_init 23 = .ok (.newarray .boolean, 2) := by decide +kernel
theorem dX2_init_25 : decode cX2_init 25 = .ok (.putfield 18, 3) := by decide +kernel
theorem dX2_init_28 : decode cX2_init 28 = .ok (.aload_n 0, 1) := by decide +kernel
theorem dX2_init_29 : decode cX2_init 29 = .ok (.iconst 0, 1) := by decide +kernel
theorem dX2_init_30 : decode cX2_init 30 = .ok (.putfield 22, 3) := by decide +kernel
theorem dX2_init_33 : decode cX2_init 33 = .ok (.return_, 1) := by decide +kernel
theorem dX2_size_0 : decode cX2_size 0 = .ok (.aload_n 0, 1) := by decide +kernel
theorem dX2_size_1 : decode cX2_size 1 = .ok (.getfield 22, 3) := by decide +kernel
theorem dX2_size_4 : decode cX2_size 4 = .ok (.ireturn, 1) := by decide +kernel
theorem dX2_empty_0 : decode cX2_empty 0 = .ok (.aload_n 0, 1) := by decide +kernel
theorem dX2_empty_1 : decode cX2_empty 1 = .ok (.iconst 0, 1) := by decide +kernel
theorem dX2_empty_2 : decode cX2_empty 2 = .ok (.putfield 22, 3) := by decide +kernel
theorem dX2_empty_5 : decode cX2_empty 5 = .ok (.return_, 1) := by decide +kernel
theorem dX2_push_0 : decode cX2_push 0 = .ok (.aload_n 0, 1) := by decide +kernel
theorem dX2_push_1 : decode cX2_push 1 = .ok (.getfield 22, 3) := by decide +kernel
theorem dX2_push_4 : decode cX2_push 4 = .ok (.bipush 8, 2) := by decide +kernel
theorem dX2_push_6 : decode cX2_push 6 = .ok (.if_icmp .lt 4, 3) := by decide +kernel
theorem dX2_push_9 : decode cX2_push 9 = .ok (.return_, 1) := by decide +kernel
theorem dX2_push_10 : decode cX2_push 10 = .ok (.aload_n 0, 1) := by decide +kernel
theorem dX2_push_11 : decode cX2_push 11 = .ok (.getfield 9, 3) := by decide +kernel
theorem dX2_push_14 : decode cX2_push 14 = .ok (.aload_n 0, 1) := by decide +kernel
theorem dX2_push_15 : decode cX2_push 15 = .ok (.getfield 22, 3) := by decide +kernel
theorem dX2_push_18 : decode cX2_push 18 = .ok (.iload_n 1, 1) := by decide +kernel
theorem dX2_push_19 : decode cX2_push 19 = .ok (.iastore, 1) := by decide +kernel
theorem dX2_push_20 : decode cX2_push 20 = .ok (.aload_n 0, 1) := by decide +kernel
theorem dX2_push_21 : decode cX2_push 21 = .ok (.getfield 15, 3) := by decide +kernel
theorem dX2_push_24 : decode cX2_push 24 = .ok (.aload_n 0, 1) := by decide +kernel
theorem dX2_push_25 : decode cX2_push 25 = .ok (.getfield 22, 3) := by decide +kernel
theorem dX2_push_28 : decode cX2_push 28 = .ok (.iload_n 2, 1) := by decide +kernel
theorem dX2_push_29 : decode cX2_push 29 = .ok (.iastore, 1) := by decide +kernel
theorem dX2_push_30 : decode cX2_push 30 = .ok (.aload_n 0, 1) := by decide +kernel
theorem dX2_push_31 : decode cX2_push 31 = .ok (.getfield 18, 3) := by decide +kernel
theorem dX2_push_34 : decode cX2_push 34 = .ok (.aload_n 0, 1) := by decide +kernel
theorem dX2_push_35 : decode cX2_push 35 = .ok (.getfield 22, 3) := by decide +kernel
theorem dX2_push_38 : decode cX2_push 38 = .ok (.iload_n 3, 1) := by decide +kernel
theorem dX2_push_39 : decode cX2_push 39 = .ok (.bastore, 1) := by decide +kernel
theorem dX2_push_40 : decode cX2_push 40 = .ok (.aload_n 0, 1) := by decide +kernel
theorem dX2_push_41 : decode cX2_push 41 = .ok (.dup, 1) := by decide +kernel
theorem dX2_push_42 : decode cX2_push 42 = .ok (.getfield 22, 3) := by decide +kernel
theorem dX2_push_45 : decode cX2_push 45 = .ok (.iconst 1, 1) := by decide +kernel
theorem dX2_push_46 : decode cX2_push 46 = .ok (.iadd, 1) := by decide +kernel
theorem dX2_push_47 : decode cX2_push 47 = .ok (.putfield 22, 3) := by decide +kernel
theorem dX2_push_50 : decode cX2_push 50 = .ok (.return_, 1) := by decide +kernel
set_option maxRecDepth 20000 in
theorem ggX2_allow_X3_letterAt : GoodIn wsX2_allow wsX3_letterAt := goodIn_r _ [8, 9, 10, 7, 11] (by decide +kernel) (by decide +kernel)
set_option maxRecDepth 20000 in
theorem gX2_allow_X3_letterAt : GoodIn wsX2_allow (va_wsS RX2 26 yX3_letterAt wsX3_letterAt) := goodIn_app (goodIn_of _ (by decide +kernel)) ggX2_allow_X3_letterAt
theorem dX2_allow_0 : decode cX2_allow 0 = .ok (.iconst 0, 1) := by decide +kernel
theorem dX2_allow_1 : decode cX2_allow 1 = .ok (.istore_n 3, 1) := by decide +kernel
theorem dX2_allow_2 : decode cX2_allow 2 = .ok (.iload_n 3, 1) := by decide +kernel
theorem dX2_allow_3 : decode cX2_allow 3 = .ok (.aload_n 0, 1) := by decide +kernel
theorem dX2_allow_4 : decode cX2_allow 4 = .ok (.getfield 22, 3) := by decide +kernel
theorem dX2_allow_7 : decode cX2_allow 7 = .ok (.if_icmp .ge 54, 3) := by decide +kernel
theorem dX2_allow_10 : decode cX2_allow 10 = .ok (.iload_n 3, 1) := by decide +kernel
theorem dX2_allow_11 : decode cX2_allow 11 = .ok (.bipush 8, 2) := by decide +kernel
theorem dX2_allow_13 : decode cX2_allow 13 = .ok (.if_icmp .ge 48, 3) := by decide +kernel
theorem dX2_allow_16 : decode cX2_allow 16 = .ok (.lload_n 1, 1) := by decide +kernel
theorem dX2_allow_17 : decode cX2_allow 17 = .ok (.aload_n 0, 1) := by decide +kernel
theorem dX2_allow_18 : decode cX2_allow 18 = .ok (.getfield 9, 3) := by decide +kernel
theorem dX2_allow_21 : decode cX2_allow 21 = .ok (.iload_n 3, 1) := by decide +kernel
theorem dX2_allow_22 : decode cX2_allow 22 = .ok (.iaload, 1) := by decide +kernel
theorem dX2_allow_23 : decode cX2_allow 23 = .ok (.invokestatic 26, 3) := by decide +kernel
theorem dX2_allow_26 : decode cX2_allow 26 = .ok (.aload_n 0, 1) := by decide +kernel
theorem dX2_allow_27 : decode cX2_allow 27 = .ok (.getfield 15, 3) := by decide +kernel
theorem dX2_allow_30 : decode cX2_allow 30 = .ok (.iload_n 3, 1) := by decide +kernel
theorem dX2_allow_31 : decode cX2_allow 31 = .ok (.iaload, 1) := by decide +kernel
theorem dX2_allow_32 : decode cX2_allow 32 = .ok (.if_icmp .ne 7, 3) := by decide +kernel
theorem dX2_allow_35 : decode cX2_allow 35 = .ok (.iconst 1, 1) := by decide +kernel
theorem dX2_allow_36 : decode cX2_allow 36 = .ok (.goto 4, 3) := by decide +kernel
theorem dX2_allow_39 : decode cX2_allow 39 = .ok (.iconst 0, 1) := by decide +kernel
theorem dX2_allow_40 : decode cX2_allow 40 = .ok (.istore 4, 2) := by decide +kernel
theorem dX2_allow_42 : decode cX2_allow 42 = .ok (.iload 4, 2) := by decide +kernel
theorem dX2_allow_44 : decode cX2_allow 44 = .ok (.aload_n 0, 1) := by decide +kernel
theorem dX2_allow_45 : decode cX2_allow 45 = .ok (.getfield 18, 3) := by decide +kernel
theorem dX2_allow_48 : decode cX2_allow 48 = .ok (.iload_n 3, 1) := by decide +kernel
theorem dX2_allow_49 : decode cX2_allow 49 = .ok (.baload, 1) := by decide +kernel
theorem dX2_allow_50 : decode cX2_allow 50 = .ok (.if_icmp .eq 5, 3) := by decide +kernel
theorem dX2_allow_53 : decode cX2_allow 53 = .ok (.iconst 0, 1) := by decide +kernel
theorem dX2_allow_54 : decode cX2_allow 54 = .ok (.ireturn, 1) := by decide +kernel
theorem dX2_allow_55 : decode cX2_allow 55 = .ok (.iinc 3 1, 3) := by decide +kernel
theorem dX2_allow_58 : decode cX2_allow 58 = .ok (.goto (-56), 3) := by decide +kernel
theorem dX2_allow_61 : decode cX2_allow 61 = .ok (.iconst 1, 1) := by decide +kernel
theorem dX2_allow_62 : decode cX2_allow 62 = .ok (.ireturn, 1) := by decide +kernel
theorem dX3_isLetter_0 : decode cX3_isLetter 0 = .ok (.iload_n 0, 1) := by decide +kernel
theorem dX3_isLetter_1 : decode cX3_isLetter 1 = .ok (.bipush 97, 2) := by decide +kernel
theorem dX3_isLetter_3 : decode cX3_isLetter 3 = .ok (.if_icmp .lt 13, 3) := by decide +kernel
theorem dX3_isLetter_6 : decode cX3_isLetter 6 = .ok (.iload_n 0, 1) := by decide +kernel
theorem dX3_isLetter_7 : decode cX3_isLetter 7 = .ok (.bipush 122, 2) := by decide +kernel
theorem dX3_isLetter_9 : decode cX3_isLetter 9 = .ok (.if_icmp .gt 7, 3) := by decide +kernel
theorem dX3_isLetter_12 : decode cX3_isLetter 12 = .ok (.iconst 1, 1) := by decide +kernel
theorem dX3_isLetter_13 : decode cX3_isLetter 13 = .ok (.goto 4, 3) := by decide +kernel
theorem dX3_isLetter_16 : decode cX3_isLetter 16 = .ok (.iconst 0, 1) := by decide +kernel
theorem dX3_isLetter_17 : decode cX3_isLetter 17 = .ok (.ireturn, 1) := by decide +kernel
set_option maxRecDepth 20000 in
theorem ggX3_letterAt_X3_shiftOf : GoodIn wsX3_letterAt wsX3_shiftOf := goodIn_r _ [4] (by decide +kernel) (by decide +kernel)
set_option maxRecDepth 20000 in
theorem gX3_letterAt_X3_shiftOf : GoodIn wsX3_letterAt (va_wsS RX3 9 yX3_shiftOf wsX3_shiftOf) := goodIn_app (goodIn_of _ (by decide +kernel)) ggX3_letterAt_X3_shiftOf
theorem dX3_letterAt_0 : decode cX3_letterAt 0 = .ok (.iload_n 2, 1) := by decide +kernel
theorem dX3_letterAt_1 : decode cX3_letterAt 1 = .ok (.ifCond .lt 9, 3) := by decide +kernel
theorem dX3_letterAt_4 : decode cX3_letterAt 4 = .ok (.iload_n 2, 1) := by decide +kernel
theorem dX3_letterAt_5 : decode cX3_letterAt 5 = .ok (.bipush 7, 2) := by decide +kernel
theorem dX3_letterAt_7 : decode cX3_letterAt 7 = .ok (.if_icmp .lt 5, 3) := by decide +kernel
theorem dX3_letterAt_10 : decode cX3_letterAt 10 = .ok (.iconst 0, 1) := by decide +kernel
theorem dX3_letterAt_11 : decode cX3_letterAt 11 = .ok (.ireturn, 1) := by decide +kernel
theorem dX3_letterAt_12 : decode cX3_letterAt 12 = .ok (.lload_n 0, 1) := by decide +kernel
theorem dX3_letterAt_13 : decode cX3_letterAt 13 = .ok (.iload_n 2, 1) := by decide +kernel
theorem dX3_letterAt_14 : decode cX3_letterAt 14 = .ok (.invokestatic 9, 3) := by decide +kernel
theorem dX3_letterAt_17 : decode cX3_letterAt 17 = .ok (.lushr, 1) := by decide +kernel
theorem dX3_letterAt_18 : decode cX3_letterAt 18 = .ok (.l2i, 1) := by decide +kernel
theorem dX3_letterAt_19 : decode cX3_letterAt 19 = .ok (.sipush 255, 3) := by decide +kernel
theorem dX3_letterAt_22 : decode cX3_letterAt 22 = .ok (.iand, 1) := by decide +kernel
theorem dX3_letterAt_23 : decode cX3_letterAt 23 = .ok (.ireturn, 1) := by decide +kernel
set_option maxRecDepth 20000 in
theorem ggX3_lengthOf_X3_letterAt : GoodIn wsX3_lengthOf wsX3_letterAt := goodIn_r _ [4, 5, 6, 3, 7] (by decide +kernel) (by decide +kernel)
set_option maxRecDepth 20000 in
theorem gX3_lengthOf_X3_letterAt : GoodIn wsX3_lengthOf (va_wsS RX3 15 yX3_letterAt wsX3_letterAt) := goodIn_app (goodIn_of _ (by decide +kernel)) ggX3_lengthOf_X3_letterAt
theorem dX3_lengthOf_0 : decode cX3_lengthOf 0 = .ok (.iconst 0, 1) := by decide +kernel
theorem dX3_lengthOf_1 : decode cX3_lengthOf 1 = .ok (.istore_n 2, 1) := by decide +kernel
theorem dX3_lengthOf_2 : decode cX3_lengthOf 2 = .ok (.iload_n 2, 1) := by decide +kernel
theorem dX3_lengthOf_3 : decode cX3_lengthOf 3 = .ok (.bipush 7, 2) := by decide +kernel
theorem dX3_lengthOf_5 : decode cX3_lengthOf 5 = .ok (.if_icmp .ge 17, 3) := by decide +kernel
theorem dX3_lengthOf_8 : decode cX3_lengthOf 8 = .ok (.lload_n 0, 1) := by decide +kernel
theorem dX3_lengthOf_9 : decode cX3_lengthOf 9 = .ok (.iload_n 2, 1) := by decide +kernel
theorem dX3_lengthOf_10 : decode cX3_lengthOf 10 = .ok (.invokestatic 15, 3) := by decide +kernel
theorem dX3_lengthOf_13 : decode cX3_lengthOf 13 = .ok (.ifCond .eq 9, 3) := by decide +kernel
theorem dX3_lengthOf_16 : decode cX3_lengthOf 16 = .ok (.iinc 2 1, 3) := by decide +kernel
theorem dX3_lengthOf_19 : decode cX3_lengthOf 19 = .ok (.goto (-17), 3) := by decide +kernel
theorem dX3_lengthOf_22 : decode cX3_lengthOf 22 = .ok (.iload_n 2, 1) := by decide +kernel
theorem dX3_lengthOf_23 : decode cX3_lengthOf 23 = .ok (.ireturn, 1) := by decide +kernel
set_option maxRecDepth 20000 in
theorem ggX3_extended_X3_shiftOf : GoodIn wsX3_extended wsX3_shiftOf := goodIn_r _ [4] (by decide +kernel) (by decide +kernel)
set_option maxRecDepth 20000 in
theorem gX3_extended_X3_shiftOf : GoodIn wsX3_extended (va_wsS RX3 9 yX3_shiftOf wsX3_shiftOf) := goodIn_app (goodIn_of _ (by decide +kernel)) ggX3_extended_X3_shiftOf
theorem dX3_extended_0 : decode cX3_extended 0 = .ok (.iload_n 2, 1) := by decide +kernel
theorem dX3_extended_1 : decode cX3_extended 1 = .ok (.ifCond .lt 9, 3) := by decide +kernel
theorem dX3_extended_4 : decode cX3_extended 4 = .ok (.iload_n 2, 1) := by decide +kernel
theorem dX3_extended_5 : decode cX3_extended 5 = .ok (.bipush 7, 2) := by decide +kernel
theorem dX3_extended_7 : decode cX3_extended 7 = .ok (.if_icmp .lt 5, 3) := by decide +kernel
theorem dX3_extended_10 : decode cX3_extended 10 = .ok (.lload_n 0, 1) := by decide +kernel
theorem dX3_extended_11 : decode cX3_extended 11 = .ok (.lreturn, 1) := by decide +kernel
theorem dX3_extended_12 : decode cX3_extended 12 = .ok (.lload_n 0, 1) := by decide +kernel
theorem dX3_extended_13 : decode cX3_extended 13 = .ok (.iload_n 3, 1) := by decide +kernel
theorem dX3_extended_14 : decode cX3_extended 14 = .ok (.i2l, 1) := by decide +kernel
theorem dX3_extended_15 : decode cX3_extended 15 = .ok (.iload_n 2, 1) := by decide +kernel
theorem dX3_extended_16 : decode cX3_extended 16 = .ok (.invokestatic 9, 3) := by decide +kernel
theorem dX3_extended_19 : decode cX3_extended 19 = .ok (.lshl, 1) := by decide +kernel
theorem dX3_extended_20 : decode cX3_extended 20 = .ok (.lor, 1) := by decide +kernel
theorem dX3_extended_21 : decode cX3_extended 21 = .ok (.lreturn, 1) := by decide +kernel
set_option maxRecDepth 20000 in
theorem ggX3_sharedBy_X3_letterAt : GoodIn wsX3_sharedBy wsX3_letterAt := goodIn_r _ [4, 5, 6, 3, 7] (by decide +kernel) (by decide +kernel)
set_option maxRecDepth 20000 in
theorem gX3_sharedBy_X3_letterAt : GoodIn wsX3_sharedBy (va_wsS RX3 15 yX3_letterAt wsX3_letterAt) := goodIn_app (goodIn_of _ (by decide +kernel)) ggX3_sharedBy_X3_letterAt
theorem dX3_sharedBy_0 : decode cX3_sharedBy 0 = .ok (.iconst 0, 1) := by decide +kernel
theorem dX3_sharedBy_1 : decode cX3_sharedBy 1 = .ok (.istore 4, 2) := by decide +kernel
theorem dX3_sharedBy_3 : decode cX3_sharedBy 3 = .ok (.iload 4, 2) := by decide +kernel
theorem dX3_sharedBy_5 : decode cX3_sharedBy 5 = .ok (.bipush 7, 2) := by decide +kernel
theorem dX3_sharedBy_7 : decode cX3_sharedBy 7 = .ok (.if_icmp .ge 33, 3) := by decide +kernel
theorem dX3_sharedBy_10 : decode cX3_sharedBy 10 = .ok (.lload_n 0, 1) := by decide +kernel
theorem dX3_sharedBy_11 : decode cX3_sharedBy 11 = .ok (.iload 4, 2) := by decide +kernel
theorem dX3_sharedBy_13 : decode cX3_sharedBy 13 = .ok (.invokestatic 15, 3) := by decide +kernel
theorem dX3_sharedBy_16 : decode cX3_sharedBy 16 = .ok (.ifCond .eq 24, 3) := by decide +kernel
theorem dX3_sharedBy_19 : decode cX3_sharedBy 19 = .ok (.lload_n 0, 1) := by decide +kernel
theorem dX3_sharedBy_20 : decode cX3_sharedBy 20 = .ok (.iload 4, 2) := by decide +kernel
theorem dX3_sharedBy_22 : decode cX3_sharedBy 22 = .ok (.invokestatic 15, 3) := by decide +kernel
theorem dX3_sharedBy_25 : decode cX3_sharedBy 25 = .ok (.lload_n 2, 1) := by decide +kernel
theorem dX3_sharedBy_26 : decode cX3_sharedBy 26 = .ok (.iload 4, 2) := by decide +kernel
theorem dX3_sharedBy_28 : decode cX3_sharedBy 28 = .ok (.invokestatic 15, 3) := by decide +kernel
theorem dX3_sharedBy_31 : decode cX3_sharedBy 31 = .ok (.if_icmp .ne 9, 3) := by decide +kernel
theorem dX3_sharedBy_34 : decode cX3_sharedBy 34 = .ok (.iinc 4 1, 3) := by decide +kernel
theorem dX3_sharedBy_37 : decode cX3_sharedBy 37 = .ok (.goto (-34), 3) := by decide +kernel
theorem dX3_sharedBy_40 : decode cX3_sharedBy 40 = .ok (.iload 4, 2) := by decide +kernel
theorem dX3_sharedBy_42 : decode cX3_sharedBy 42 = .ok (.ireturn, 1) := by decide +kernel
set_option maxRecDepth 20000 in
theorem ggX3_begins_X3_sharedBy : GoodIn wsX3_begins wsX3_sharedBy := goodIn_r _ [4, 5, 6, 3, 7, 8, 9, 10] (by decide +kernel) (by decide +kernel)
set_option maxRecDepth 20000 in
theorem gX3_begins_X3_sharedBy : GoodIn wsX3_begins (va_wsS RX3 19 yX3_sharedBy wsX3_sharedBy) := goodIn_app (goodIn_of _ (by decide +kernel)) ggX3_begins_X3_sharedBy
set_option maxRecDepth 20000 in
theorem ggX3_begins_X3_lengthOf : GoodIn wsX3_begins wsX3_lengthOf := goodIn_r _ [13, 5, 6, 3, 7, 8, 9, 10] (by decide +kernel) (by decide +kernel)
set_option maxRecDepth 20000 in
theorem gX3_begins_X3_lengthOf : GoodIn wsX3_begins (va_wsS RX3 23 yX3_lengthOf wsX3_lengthOf) := goodIn_app (goodIn_of _ (by decide +kernel)) ggX3_begins_X3_lengthOf
theorem dX3_begins_0 : decode cX3_begins 0 = .ok (.lload_n 0, 1) := by decide +kernel
theorem dX3_begins_1 : decode cX3_begins 1 = .ok (.lload_n 2, 1) := by decide +kernel
theorem dX3_begins_2 : decode cX3_begins 2 = .ok (.invokestatic 19, 3) := by decide +kernel
theorem dX3_begins_5 : decode cX3_begins 5 = .ok (.lload_n 0, 1) := by decide +kernel
theorem dX3_begins_6 : decode cX3_begins 6 = .ok (.invokestatic 23, 3) := by decide +kernel
theorem dX3_begins_9 : decode cX3_begins 9 = .ok (.if_icmp .ne 7, 3) := by decide +kernel
theorem dX3_begins_12 : decode cX3_begins 12 = .ok (.iconst 1, 1) := by decide +kernel
theorem dX3_begins_13 : decode cX3_begins 13 = .ok (.goto 4, 3) := by decide +kernel
theorem dX3_begins_16 : decode cX3_begins 16 = .ok (.iconst 0, 1) := by decide +kernel
theorem dX3_begins_17 : decode cX3_begins 17 = .ok (.ireturn, 1) := by decide +kernel
set_option maxRecDepth 20000 in
theorem ggX3_differences_X3_letterAt : GoodIn wsX3_differences wsX3_letterAt := goodIn_r _ [4, 5, 6, 3, 7] (by decide +kernel) (by decide +kernel)
set_option maxRecDepth 20000 in
theorem gX3_differences_X3_letterAt : GoodIn wsX3_differences (va_wsS RX3 15 yX3_letterAt wsX3_letterAt) := goodIn_app (goodIn_of _ (by decide +kernel)) ggX3_differences_X3_letterAt
theorem dX3_differences_0 : decode cX3_differences 0 = .ok (.iconst 0, 1) := by decide +kernel
theorem dX3_differences_1 : decode cX3_differences 1 = .ok (.istore 4, 2) := by decide +kernel
theorem dX3_differences_3 : decode cX3_differences 3 = .ok (.iconst 0, 1) := by decide +kernel
theorem dX3_differences_4 : decode cX3_differences 4 = .ok (.istore 5, 2) := by decide +kernel
theorem dX3_differences_6 : decode cX3_differences 6 = .ok (.iload 5, 2) := by decide +kernel
theorem dX3_differences_8 : decode cX3_differences 8 = .ok (.bipush 7, 2) := by decide +kernel
theorem dX3_differences_10 : decode cX3_differences 10 = .ok (.if_icmp .ge 27, 3) := by decide +kernel
theorem dX3_differences_13 : decode cX3_differences 13 = .ok (.lload_n 0, 1) := by decide +kernel
theorem dX3_differences_14 : decode cX3_differences 14 = .ok (.iload 5, 2) := by decide +kernel
theorem dX3_differences_16 : decode cX3_differences 16 = .ok (.invokestatic 15, 3) := by decide +kernel
theorem dX3_differences_19 : decode cX3_differences 19 = .ok (.lload_n 2, 1) := by decide +kernel
theorem dX3_differences_20 : decode cX3_differences 20 = .ok (.iload 5, 2) := by decide +kernel
theorem dX3_differences_22 : decode cX3_differences 22 = .ok (.invokestatic 15, 3) := by decide +kernel
theorem dX3_differences_25 : decode cX3_differences 25 = .ok (.if_icmp .eq 6, 3) := by decide +kernel
theorem dX3_differences_28 : decode cX3_differences 28 = .ok (.iinc 4 1, 3) := by decide +kernel
theorem dX3_differences_31 : decode cX3_differences 31 = .ok (.iinc 5 1, 3) := by decide +kernel
theorem dX3_differences_34 : decode cX3_differences 34 = .ok (.goto (-28), 3) := by decide +kernel
theorem dX3_differences_37 : decode cX3_differences 37 = .ok (.iload 4, 2) := by decide +kernel
theorem dX3_differences_39 : decode cX3_differences 39 = .ok (.ireturn, 1) := by decide +kernel
theorem dX3_shiftOf_0 : decode cX3_shiftOf 0 = .ok (.bipush 8, 2) := by decide +kernel
theorem dX3_shiftOf_2 : decode cX3_shiftOf 2 = .ok (.bipush 6, 2) := by decide +kernel
theorem dX3_shiftOf_4 : decode cX3_shiftOf 4 = .ok (.iload_n 0, 1) := by decide +kernel
theorem dX3_shiftOf_5 : decode cX3_shiftOf 5 = .ok (.isub, 1) := by decide +kernel
theorem dX3_shiftOf_6 : decode cX3_shiftOf 6 = .ok (.imul, 1) := by decide +kernel
theorem dX3_shiftOf_7 : decode cX3_shiftOf 7 = .ok (.ireturn, 1) := by decide +kernel
set_option maxRecDepth 20000 in
theorem ggX4_init_X0_init : GoodIn wsX4_init wsX0_init := goodIn_r _ [21, 22, 2, 3, 23, 24, 16, 25, 26, 27, 43, 44, 45, 46] (by decide +kernel) (by decide +kernel)
set_option maxRecDepth 20000 in
theorem gX4_init_X0_init_n9 : GoodIn wsX4_init (wsX0_init) := ggX4_init_X0_init
set_option maxRecDepth 20000 in
theorem ggX4_init_X1_init : GoodIn wsX4_init wsX1_init := goodIn_r _ [29, 30, 2, 3, 23, 31, 16, 32, 33, 34, 53, 54, 55, 56] (by decide +kernel) (by decide +kernel)
set_option maxRecDepth 20000 in
theorem gX4_init_X1_init_n18 : GoodIn wsX4_init (wsX1_init) := ggX4_init_X1_init
set_option maxRecDepth 20000 in
theorem ggX4_init_X2_init : GoodIn wsX4_init wsX2_init := goodIn_r _ [36, 37, 2, 3, 16, 38, 39, 40, 41, 42, 57, 58, 59, 60] (by decide +kernel) (by decide +kernel)
set_option maxRecDepth 20000 in
theorem gX4_init_X2_init_n25 : GoodIn wsX4_init (wsX2_init) := ggX4_init_X2_init
end
section
theorem dX4_init_0 : decode cX4_init 0 = .ok (.aload_n 0, 1) := by decide +kernel
theorem dX4_init_1 : decode cX4_init 1 = .ok (.invokespecial 1, 3) := by decide +kernel
theorem dX4_init_4 : decode cX4_init 4 = .ok (.aload_n 0, 1) := by decide +kernel
theorem dX4_init_5 : decode cX4_init 5 = .ok (.new 7, 3) := by decide +kernel
theorem dX4_init_8 : decode cX4_init 8 = .ok (.dup, 1) := by decide +kernel
theorem dX4_init_9 : decode cX4_init 9 = .ok (.invokespecial 9, 3) := by decide +kernel
theorem dX4_init_12 : decode cX4_init 12 = .ok (.putfield 10, 3) := by decide +kernel
theorem dX4_init_15 : decode cX4_init 15 = .ok (.aload_n 0, 1) := by decide +kernel
theorem dX4_init_16 : decode cX4_init 16 = .ok (.new 16, 3) := by decide +kernel
theorem dX4_init_19 : decode cX4_init 19 = .ok (.dup, 1) := by decide +kernel
theorem dX4_init_20 : decode cX4_init 20 = .ok (.invokespecial 18, 3) := by decide +kernel
theorem dX4_init_23 : decode cX4_init 23 = .ok (.putfield 19, 3) := by decide +kernel
theorem dX4_init_26 : decode cX4_init 26 = .ok (.aload_n 0, 1) := by decide +kernel
theorem dX4_init_27 : decode cX4_init 27 = .ok (.new 23, 3) := by decide +kernel
theorem dX4_init_30 : decode cX4_init 30 = .ok (.dup, 1) := by decide +kernel
theorem dX4_init_31 : decode cX4_init 31 = .ok (.invokespecial 25, 3) := by decide +kernel
theorem dX4_init_34 : decode cX4_init 34 = .ok (.putfield 26, 3) := by decide +kernel
theorem dX4_init_37 : decode cX4_init 37 = .ok (.aload_n 0, 1) := by decide +kernel
theorem dX4_init_38 : decode cX4_init 38 = .ok (.sipush 182, 3) := by decide +kernel
theorem dX4_init_41 : decode cX4_init 41 = .ok (.newarray .int, 2) := by decide +kernel
theorem dX4_init_43 : decode cX4_init 43 = .ok (.putfield 30, 3) := by decide +kernel
theorem dX4_init_46 : decode cX4_init 46 = .ok (.aload_n 0, 1) := by decide +kernel
theorem dX4_init_47 : decode cX4_init 47 = .ok (.lconst 0, 1) := by decide +kernel
theorem dX4_init_48 : decode cX4_init 48 = .ok (.putfield 36, 3) := by decide +kernel
theorem dX4_init_51 : decode cX4_init 51 = .ok (.aload_n 0, 1) := by decide +kernel
theorem dX4_init_52 : decode cX4_init 52 = .ok (.iconst 4, 1) := by decide +kernel
theorem dX4_init_53 : decode cX4_init 53 = .ok (.putfield 40, 3) := by decide +kernel
theorem dX4_init_56 : decode cX4_init 56 = .ok (.return_, 1) := by decide +kernel
set_option maxRecDepth 20000 in
theorem ggX4_type_X3_isLetter : GoodIn wsX4_type wsX3_isLetter := goodIn_r _ [5] (by decide +kernel) (by decide +kernel)
set_option maxRecDepth 20000 in
theorem gX4_type_X3_isLetter : GoodIn wsX4_type (va_wsS RX4 44 yX3_isLetter wsX3_isLetter) := goodIn_app (goodIn_of _ (by decide +kernel)) ggX4_type_X3_isLetter
set_option maxRecDepth 20000 in
theorem ggX4_type_X3_lengthOf : GoodIn wsX4_type wsX3_lengthOf := goodIn_r _ [8, 9, 10, 4, 11, 12, 13, 14] (by decide +kernel) (by decide +kernel)
set_option maxRecDepth 20000 in
theorem gX4_type_X3_lengthOf : GoodIn wsX4_type (va_wsS RX4 48 yX3_lengthOf wsX3_lengthOf) := goodIn_app (goodIn_of _ (by decide +kernel)) ggX4_type_X3_lengthOf
set_option maxRecDepth 20000 in
theorem ggX4_type_X3_extended : GoodIn wsX4_type wsX3_extended := goodIn_r _ [17, 12, 13, 4, 14] (by decide +kernel) (by decide +kernel)
set_option maxRecDepth 20000 in
theorem gX4_type_X3_extended : GoodIn wsX4_type (va_wsS RX4 52 yX3_extended wsX3_extended) := goodIn_app (goodIn_of _ (by decide +kernel)) ggX4_type_X3_extended
theorem dX4_type_0 : decode cX4_type 0 = .ok (.iload_n 1, 1) := by decide +kernel
theorem dX4_type_1 : decode cX4_type 1 = .ok (.invokestatic 44, 3) := by decide +kernel
theorem dX4_type_4 : decode cX4_type 4 = .ok (.ifCond .ne 5, 3) := by decide +kernel
theorem dX4_type_7 : decode cX4_type 7 = .ok (.iconst (-1), 1) := by decide +kernel
theorem dX4_type_8 : decode cX4_type 8 = .ok (.ireturn, 1) := by decide +kernel
theorem dX4_type_9 : decode cX4_type 9 = .ok (.aload_n 0, 1) := by decide +kernel
theorem dX4_type_10 : decode cX4_type 10 = .ok (.getfield 36, 3) := by decide +kernel
theorem dX4_type_13 : decode cX4_type 13 = .ok (.invokestatic 48, 3) := by decide +kernel
theorem dX4_type_16 : decode cX4_type 16 = .ok (.istore_n 2, 1) := by decide +kernel
theorem dX4_type_17 : decode cX4_type 17 = .ok (.iload_n 2, 1) := by decide +kernel
theorem dX4_type_18 : decode cX4_type 18 = .ok (.bipush 7, 2) := by decide +kernel
theorem dX4_type_20 : decode cX4_type 20 = .ok (.if_icmp .lt 6, 3) := by decide +kernel
theorem dX4_type_23 : decode cX4_type 23 = .ok (.bipush (-3), 2) := by decide +kernel
theorem dX4_type_25 : decode cX4_type 25 = .ok (.ireturn, 1) := by decide +kernel
theorem dX4_type_26 : decode cX4_type 26 = .ok (.aload_n 0, 1) := by decide +kernel
theorem dX4_type_27 : decode cX4_type 27 = .ok (.aload_n 0, 1) := by decide +kernel
theorem dX4_type_28 : decode cX4_type 28 = .ok (.getfield 36, 3) := by decide +kernel
theorem dX4_type_31 : decode cX4_type 31 = .ok (.iload_n 2, 1) := by decide +kernel
theorem dX4_type_32 : decode cX4_type 32 = .ok (.iload_n 1, 1) := by decide +kernel
theorem dX4_type_33 : decode cX4_type 33 = .ok (.invokestatic 52, 3) := by decide +kernel
theorem dX4_type_36 : decode cX4_type 36 = .ok (.putfield 36, 3) := by decide +kernel
theorem dX4_type_39 : decode cX4_type 39 = .ok (.iload_n 2, 1) := by decide +kernel
theorem dX4_type_40 : decode cX4_type 40 = .ok (.iconst 1, 1) := by decide +kernel
theorem dX4_type_41 : decode cX4_type 41 = .ok (.iadd, 1) := by decide +kernel
theorem dX4_type_42 : decode cX4_type 42 = .ok (.ireturn, 1) := by decide +kernel
set_option maxRecDepth 20000 in
theorem ggX4_clear_X3_lengthOf : GoodIn wsX4_clear wsX3_lengthOf := goodIn_r _ [5, 6, 7, 4, 8, 9, 10, 11] (by decide +kernel) (by decide +kernel)
set_option maxRecDepth 20000 in
theorem gX4_clear_X3_lengthOf : GoodIn wsX4_clear (va_wsS RX4 48 yX3_lengthOf wsX3_lengthOf) := goodIn_app (goodIn_of _ (by decide +kernel)) ggX4_clear_X3_lengthOf
theorem dX4_clear_0 : decode cX4_clear 0 = .ok (.aload_n 0, 1) := by decide +kernel
theorem dX4_clear_1 : decode cX4_clear 1 = .ok (.getfield 36, 3) := by decide +kernel
theorem dX4_clear_4 : decode cX4_clear 4 = .ok (.invokestatic 48, 3) := by decide +kernel
theorem dX4_clear_7 : decode cX4_clear 7 = .ok (.istore_n 1, 1) := by decide +kernel
theorem dX4_clear_8 : decode cX4_clear 8 = .ok (.aload_n 0, 1) := by decide +kernel
theorem dX4_clear_9 : decode cX4_clear 9 = .ok (.lconst 0, 1) := by decide +kernel
theorem dX4_clear_10 : decode cX4_clear 10 = .ok (.putfield 36, 3) := by decide +kernel
theorem dX4_clear_13 : decode cX4_clear 13 = .ok (.iload_n 1, 1) := by decide +kernel
theorem dX4_clear_14 : decode cX4_clear 14 = .ok (.ireturn, 1) := by decide +kernel
set_option maxRecDepth 20000 in
theorem ggX4_bounds_X0_size : GoodIn wsX4_bounds wsX0_size := goodIn_r _ [8, 9, 22, 23, 24, 25] (by decide +kernel) (by decide +kernel)
set_option maxRecDepth 20000 in
theorem gX4_bounds_X0_size : GoodIn wsX4_bounds (wsV RX4 56 RX0 yX0_size wsX0_size) := goodIn_app (goodIn_of _ (by decide +kernel)) ggX4_bounds_X0_size
set_option maxRecDepth 20000 in
theorem ggX4_bounds_X1_empty : GoodIn wsX4_bounds wsX1_empty := goodIn_r _ [14, 15, 26, 27, 28, 29] (by decide +kernel) (by decide +kernel)
set_option maxRecDepth 20000 in
theorem gX4_bounds_X1_empty : GoodIn wsX4_bounds (wsV RX4 60 RX1 yX1_empty wsX1_empty) := goodIn_app (goodIn_of _ (by decide +kernel)) ggX4_bounds_X1_empty
theorem dX4_bounds_0 : decode cX4_bounds 0 = .ok (.iload_n 1, 1) := by decide +kernel
theorem dX4_bounds_1 : decode cX4_bounds 1 = .ok (.iconst 2, 1) := by decide +kernel
theorem dX4_bounds_2 : decode cX4_bounds 2 = .ok (.if_icmp .lt 9, 3) := by decide +kernel
theorem dX4_bounds_5 : decode cX4_bounds 5 = .ok (.iload_n 1, 1) := by decide +kernel
theorem dX4_bounds_6 : decode cX4_bounds 6 = .ok (.bipush 8, 2) := by decide +kernel
theorem dX4_bounds_8 : decode cX4_bounds 8 = .ok (.if_icmp .le 5, 3) := by decide +kernel
theorem dX4_bounds_11 : decode cX4_bounds 11 = .ok (.iconst (-1), 1) := by decide +kernel
theorem dX4_bounds_12 : decode cX4_bounds 12 = .ok (.ireturn, 1) := by decide +kernel
theorem dX4_bounds_13 : decode cX4_bounds 13 = .ok (.aload_n 0, 1) := by decide +kernel
theorem dX4_bounds_14 : decode cX4_bounds 14 = .ok (.getfield 10, 3) := by decide +kernel
theorem dX4_bounds_17 : decode cX4_bounds 17 = .ok (.invokevirtual 56, 3) := by decide +kernel
theorem dX4_bounds_20 : decode cX4_bounds 20 = .ok (.ifCond .le 6, 3) := by decide +kernel
theorem dX4_bounds_23 : decode cX4_bounds 23 = .ok (.bipush (-2), 2) := by decide +kernel
theorem dX4_bounds_25 : decode cX4_bounds 25 = .ok (.ireturn, 1) := by decide +kernel
theorem dX4_bounds_26 : decode cX4_bounds 26 = .ok (.aload_n 0, 1) := by decide +kernel
theorem dX4_bounds_27 : decode cX4_bounds 27 = .ok (.getfield 40, 3) := by decide +kernel
theorem dX4_bounds_30 : decode cX4_bounds 30 = .ok (.istore_n 2, 1) := by decide +kernel
theorem dX4_bounds_31 : decode cX4_bounds 31 = .ok (.aload_n 0, 1) := by decide +kernel
theorem dX4_bounds_32 : decode cX4_bounds 32 = .ok (.iload_n 1, 1) := by decide +kernel
theorem dX4_bounds_33 : decode cX4_bounds 33 = .ok (.putfield 40, 3) := by decide +kernel
theorem dX4_bounds_36 : decode cX4_bounds 36 = .ok (.aload_n 0, 1) := by decide +kernel
theorem dX4_bounds_37 : decode cX4_bounds 37 = .ok (.getfield 19, 3) := by decide +kernel
theorem dX4_bounds_40 : decode cX4_bounds 40 = .ok (.invokevirtual 60, 3) := by decide +kernel
theorem dX4_bounds_43 : decode cX4_bounds 43 = .ok (.iload_n 2, 1) := by decide +kernel
theorem dX4_bounds_44 : decode cX4_bounds 44 = .ok (.ireturn, 1) := by decide +kernel
set_option maxRecDepth 20000 in
theorem ggX4_adds_X0_oftenOf : GoodIn wsX4_adds wsX0_oftenOf := goodIn_r _ [9, 10, 11, 12, 8, 13, 14, 15, 16, 17, 18, 19, 20, 21, 22, 23, 24, 25, 26, 27, 28, 111, 112, 113, 114] (by decide +kernel) (by decide +kernel)
set_option maxRecDepth 20000 in
theorem gX4_adds_X0_oftenOf : GoodIn wsX4_adds (wsV RX4 63 RX0 yX0_oftenOf wsX0_oftenOf) := goodIn_app (goodIn_of _ (by decide +kernel)) ggX4_adds_X0_oftenOf
set_option maxRecDepth 20000 in
theorem ggX4_adds_X0_size : GoodIn wsX4_adds wsX0_size := goodIn_r _ [32, 14, 111, 112, 113, 114] (by decide +kernel) (by decide +kernel)
set_option maxRecDepth 20000 in
theorem gX4_adds_X0_size : GoodIn wsX4_adds (wsV RX4 56 RX0 yX0_size wsX0_size) := goodIn_app (goodIn_of _ (by decide +kernel)) ggX4_adds_X0_size
set_option maxRecDepth 20000 in
theorem ggX4_adds_X0_depthOf : GoodIn wsX4_adds wsX0_depthOf := goodIn_r _ [36, 14, 37, 38, 39, 40, 41, 42, 43, 15, 16, 17, 8, 18, 19, 20, 21, 22, 23, 44, 45, 46, 47, 48, 49, 50, 51, 52, 53, 54, 55, 56, 57, 58, 111, 112, 113, 114] (by decide +kernel) (by decide +kernel)
set_option maxRecDepth 20000 in
theorem gX4_adds_X0_depthOf : GoodIn wsX4_adds (wsV RX4 66 RX0 yX0_depthOf wsX0_depthOf) := goodIn_app (goodIn_of _ (by decide +kernel)) ggX4_adds_X0_depthOf
set_option maxRecDepth 20000 in
theorem ggX4_adds_X1_push : GoodIn wsX4_adds wsX1_push := goodIn_r _ [63, 64, 65, 66, 67, 68, 69, 70, 62, 71, 72, 73, 74, 75, 115, 116, 117, 118] (by decide +kernel) (by decide +kernel)
set_option maxRecDepth 20000 in
theorem gX4_adds_X1_push : GoodIn wsX4_adds (wsV RX4 69 RX1 yX1_push wsX1_push) := goodIn_app (goodIn_of _ (by decide +kernel)) ggX4_adds_X1_push
set_option maxRecDepth 20000 in
theorem ggX4_adds_X0_put : GoodIn wsX4_adds wsX0_put := goodIn_r _ [79, 19, 28, 10, 11, 12, 8, 13, 14, 15, 16, 17, 18, 20, 21, 22, 23, 80, 81, 82, 83, 84, 73, 74, 75, 58, 85, 34, 35, 36, 37, 38, 39, 40, 41, 42, 43, 44, 45, 46, 47, 48, 49, 50, 51, 52, 53, 54, 55, 56, 57, 86, 87, 88, 89, 111, 112, 113, 114] (by decide +kernel) (by decide +kernel)
set_option maxRecDepth 20000 in
theorem gX4_adds_X0_put : GoodIn wsX4_adds (wsV RX4 73 RX0 yX0_put wsX0_put) := goodIn_app (goodIn_of _ (by decide +kernel)) ggX4_adds_X0_put
set_option maxRecDepth 20000 in
theorem ggX4_adds_X0_burstDepth : GoodIn wsX4_adds wsX0_burstDepth := goodIn_r _ [93, 94, 95, 46, 96, 48, 49, 50, 51, 52, 53, 97, 98, 99, 8, 100, 14, 15, 16, 17, 18, 19, 20, 21, 22, 23, 44, 45, 47, 111, 112, 113, 114] (by decide +kernel) (by decide +kernel)
set_option maxRecDepth 20000 in
theorem gX4_adds_X0_burstDepth : GoodIn wsX4_adds (wsV RX4 77 RX0 yX0_burstDepth wsX0_burstDepth) := goodIn_app (goodIn_of _ (by decide +kernel)) ggX4_adds_X0_burstDepth
set_option maxRecDepth 20000 in
theorem ggX4_adds_X0_reshape : GoodIn wsX4_adds wsX0_reshape := goodIn_r _ [104, 37, 38, 39, 40, 14, 19, 58, 44, 45, 46, 47, 48, 49, 50, 51, 52, 53, 111, 112, 113, 114] (by decide +kernel) (by decide +kernel)
set_option maxRecDepth 20000 in
theorem gX4_adds_X0_reshape : GoodIn wsX4_adds (wsV RX4 81 RX0 yX0_reshape wsX0_reshape) := goodIn_app (goodIn_of _ (by decide +kernel)) ggX4_adds_X0_reshape
theorem dX4_adds_0 : decode cX4_adds 0 = .ok (.aload_n 0, 1) := by decide +kernel
theorem dX4_adds_1 : decode cX4_adds 1 = .ok (.getfield 36, 3) := by decide +kernel
theorem dX4_adds_4 : decode cX4_adds 4 = .ok (.lconst 0, 1) := by decide +kernel
theorem dX4_adds_5 : decode cX4_adds 5 = .ok (.lcmp, 1) := by decide +kernel
theorem dX4_adds_6 : decode cX4_adds 6 = .ok (.ifCond .ne 5, 3) := by decide +kernel
theorem dX4_adds_9 : decode cX4_adds 9 = .ok (.iconst (-1), 1) := by decide +kernel
theorem dX4_adds_10 : decode cX4_adds 10 = .ok (.ireturn, 1) := by decide +kernel
theorem dX4_adds_11 : decode cX4_adds 11 = .ok (.aload_n 0, 1) := by decide +kernel
theorem dX4_adds_12 : decode cX4_adds 12 = .ok (.getfield 10, 3) := by decide +kernel
theorem dX4_adds_15 : decode cX4_adds 15 = .ok (.aload_n 0, 1) := by decide +kernel
theorem dX4_adds_16 : decode cX4_adds 16 = .ok (.getfield 36, 3) := by decide +kernel
theorem dX4_adds_19 : decode cX4_adds 19 = .ok (.invokevirtual 63, 3) := by decide +kernel
theorem dX4_adds_22 : decode cX4_adds 22 = .ok (.istore_n 1, 1) := by decide +kernel
theorem dX4_adds_23 : decode cX4_adds 23 = .ok (.iload_n 1, 1) := by decide +kernel
theorem dX4_adds_24 : decode cX4_adds 24 = .ok (.bipush 99, 2) := by decide +kernel
theorem dX4_adds_26 : decode cX4_adds 26 = .ok (.if_icmp .ge 19, 3) := by decide +kernel
theorem dX4_adds_29 : decode cX4_adds 29 = .ok (.iload_n 1, 1) := by decide +kernel
theorem dX4_adds_30 : decode cX4_adds 30 = .ok (.ifCond .ne 18, 3) := by decide +kernel
theorem dX4_adds_33 : decode cX4_adds 33 = .ok (.aload_n 0, 1) := by decide +kernel
theorem dX4_adds_34 : decode cX4_adds 34 = .ok (.getfield 10, 3) := by decide +kernel
theorem dX4_adds_37 : decode cX4_adds 37 = .ok (.invokevirtual 56, 3) := by decide +kernel
theorem dX4_adds_40 : decode cX4_adds 40 = .ok (.bipush 40, 2) := by decide +kernel
theorem dX4_adds_42 : decode cX4_adds 42 = .ok (.if_icmp .lt 6, 3) := by decide +kernel
theorem dX4_adds_45 : decode cX4_adds 45 = .ok (.bipush (-3), 2) := by decide +kernel
theorem dX4_adds_47 : decode cX4_adds 47 = .ok (.ireturn, 1) := by decide +kernel
theorem dX4_adds_48 : decode cX4_adds 48 = .ok (.aload_n 0, 1) := by decide +kernel
theorem dX4_adds_49 : decode cX4_adds 49 = .ok (.getfield 10, 3) := by decide +kernel
theorem dX4_adds_52 : decode cX4_adds 52 = .ok (.aload_n 0, 1) := by decide +kernel
theorem dX4_adds_53 : decode cX4_adds 53 = .ok (.getfield 36, 3) := by decide +kernel
theorem dX4_adds_56 : decode cX4_adds 56 = .ok (.invokevirtual 66, 3) := by decide +kernel
theorem dX4_adds_59 : decode cX4_adds 59 = .ok (.istore_n 2, 1) := by decide +kernel
theorem dX4_adds_60 : decode cX4_adds 60 = .ok (.aload_n 0, 1) := by decide +kernel
theorem dX4_adds_61 : decode cX4_adds 61 = .ok (.getfield 19, 3) := by decide +kernel
theorem dX4_adds_64 : decode cX4_adds 64 = .ok (.aload_n 0, 1) := by decide +kernel
theorem dX4_adds_65 : decode cX4_adds 65 = .ok (.getfield 36, 3) := by decide +kernel
theorem dX4_adds_68 : decode cX4_adds 68 = .ok (.iload_n 1, 1) := by decide +kernel
theorem dX4_adds_69 : decode cX4_adds 69 = .ok (.iload_n 2, 1) := by decide +kernel
theorem dX4_adds_70 : decode cX4_adds 70 = .ok (.invokevirtual 69, 3) := by decide +kernel
theorem dX4_adds_73 : decode cX4_adds 73 = .ok (.aload_n 0, 1) := by decide +kernel
theorem dX4_adds_74 : decode cX4_adds 74 = .ok (.getfield 10, 3) := by decide +kernel
theorem dX4_adds_77 : decode cX4_adds 77 = .ok (.aload_n 0, 1) := by decide +kernel
theorem dX4_adds_78 : decode cX4_adds 78 = .ok (.getfield 36, 3) := by decide +kernel
theorem dX4_adds_81 : decode cX4_adds 81 = .ok (.iload_n 1, 1) := by decide +kernel
theorem dX4_adds_82 : decode cX4_adds 82 = .ok (.iconst 1, 1) := by decide +kernel
theorem dX4_adds_83 : decode cX4_adds 83 = .ok (.iadd, 1) := by decide +kernel
theorem dX4_adds_84 : decode cX4_adds 84 = .ok (.invokevirtual 73, 3) := by decide +kernel
theorem dX4_adds_87 : decode cX4_adds 87 = .ok (.aload_n 0, 1) := by decide +kernel
theorem dX4_adds_88 : decode cX4_adds 88 = .ok (.getfield 10, 3) := by decide +kernel
theorem dX4_adds_91 : decode cX4_adds 91 = .ok (.aload_n 0, 1) := by decide +kernel
theorem dX4_adds_92 : decode cX4_adds 92 = .ok (.getfield 36, 3) := by decide +kernel
theorem dX4_adds_95 : decode cX4_adds 95 = .ok (.iload_n 2, 1) := by decide +kernel
theorem dX4_adds_96 : decode cX4_adds 96 = .ok (.aload_n 0, 1) := by decide +kernel
theorem dX4_adds_97 : decode cX4_adds 97 = .ok (.getfield 10, 3) := by decide +kernel
theorem dX4_adds_100 : decode cX4_adds 100 = .ok (.aload_n 0, 1) := by decide +kernel
theorem dX4_adds_101 : decode cX4_adds 101 = .ok (.getfield 36, 3) := by decide +kernel
theorem dX4_adds_104 : decode cX4_adds 104 = .ok (.iload_n 2, 1) := by decide +kernel
theorem dX4_adds_105 : decode cX4_adds 105 = .ok (.aload_n 0, 1) := by decide +kernel
theorem dX4_adds_106 : decode cX4_adds 106 = .ok (.getfield 40, 3) := by decide +kernel
theorem dX4_adds_109 : decode cX4_adds 109 = .ok (.invokevirtual 77, 3) := by decide +kernel
theorem dX4_adds_112 : decode cX4_adds 112 = .ok (.invokevirtual 81, 3) := by decide +kernel
theorem dX4_adds_115 : decode cX4_adds 115 = .ok (.iload_n 1, 1) := by decide +kernel
theorem dX4_adds_116 : decode cX4_adds 116 = .ok (.iconst 1, 1) := by decide +kernel
theorem dX4_adds_117 : decode cX4_adds 117 = .ok (.iadd, 1) := by decide +kernel
theorem dX4_adds_118 : decode cX4_adds 118 = .ok (.ireturn, 1) := by decide +kernel
set_option maxRecDepth 20000 in
theorem ggX4_takes_X0_oftenOf : GoodIn wsX4_takes wsX0_oftenOf := goodIn_r _ [9, 10, 11, 12, 8, 13, 14, 15, 16, 17, 18, 19, 20, 21, 22, 23, 24, 25, 26, 27, 28, 104, 105, 106, 107] (by decide +kernel) (by decide +kernel)
set_option maxRecDepth 20000 in
theorem gX4_takes_X0_oftenOf : GoodIn wsX4_takes (wsV RX4 63 RX0 yX0_oftenOf wsX0_oftenOf) := goodIn_app (goodIn_of _ (by decide +kernel)) ggX4_takes_X0_oftenOf
set_option maxRecDepth 20000 in
theorem ggX4_takes_X0_depthOf : GoodIn wsX4_takes wsX0_depthOf := goodIn_r _ [32, 14, 33, 34, 35, 36, 37, 38, 39, 15, 16, 17, 8, 18, 19, 20, 21, 22, 23, 40, 41, 42, 43, 44, 45, 46, 47, 48, 49, 50, 51, 52, 53, 54, 104, 105, 106, 107] (by decide +kernel) (by decide +kernel)
set_option maxRecDepth 20000 in
theorem gX4_takes_X0_depthOf : GoodIn wsX4_takes (wsV RX4 66 RX0 yX0_depthOf wsX0_depthOf) := goodIn_app (goodIn_of _ (by decide +kernel)) ggX4_takes_X0_depthOf
set_option maxRecDepth 20000 in
theorem ggX4_takes_X1_push : GoodIn wsX4_takes wsX1_push := goodIn_r _ [59, 60, 61, 62, 63, 64, 65, 66, 58, 67, 68, 69, 70, 71, 108, 109, 110, 111] (by decide +kernel) (by decide +kernel)
set_option maxRecDepth 20000 in
theorem gX4_takes_X1_push : GoodIn wsX4_takes (wsV RX4 69 RX1 yX1_push wsX1_push) := goodIn_app (goodIn_of _ (by decide +kernel)) ggX4_takes_X1_push
set_option maxRecDepth 20000 in
theorem ggX4_takes_X0_put : GoodIn wsX4_takes wsX0_put := goodIn_r _ [75, 19, 28, 10, 11, 12, 8, 13, 14, 15, 16, 17, 18, 20, 21, 22, 23, 76, 77, 78, 79, 80, 69, 70, 71, 54, 81, 30, 31, 32, 33, 34, 35, 36, 37, 38, 39, 40, 41, 42, 43, 44, 45, 46, 47, 48, 49, 50, 51, 52, 53, 82, 83, 84, 85, 104, 105, 106, 107] (by decide +kernel) (by decide +kernel)
set_option maxRecDepth 20000 in
theorem gX4_takes_X0_put : GoodIn wsX4_takes (wsV RX4 73 RX0 yX0_put wsX0_put) := goodIn_app (goodIn_of _ (by decide +kernel)) ggX4_takes_X0_put
set_option maxRecDepth 20000 in
theorem ggX4_takes_X0_mergedDepth : GoodIn wsX4_takes wsX0_mergedDepth := goodIn_r _ [89, 90, 91, 92, 8, 93, 14, 15, 16, 17, 18, 19, 20, 21, 22, 23, 40, 41, 42, 43, 44, 45, 46, 47, 48, 49, 104, 105, 106, 107] (by decide +kernel) (by decide +kernel)
set_option maxRecDepth 20000 in
theorem gX4_takes_X0_mergedDepth : GoodIn wsX4_takes (wsV RX4 84 RX0 yX0_mergedDepth wsX0_mergedDepth) := goodIn_app (goodIn_of _ (by decide +kernel)) ggX4_takes_X0_mergedDepth
set_option maxRecDepth 20000 in
theorem ggX4_takes_X0_reshape : GoodIn wsX4_takes wsX0_reshape := goodIn_r _ [97, 33, 34, 35, 36, 14, 19, 54, 40, 41, 42, 43, 44, 45, 46, 47, 48, 49, 104, 105, 106, 107] (by decide +kernel) (by decide +kernel)
set_option maxRecDepth 20000 in
theorem gX4_takes_X0_reshape : GoodIn wsX4_takes (wsV RX4 81 RX0 yX0_reshape wsX0_reshape) := goodIn_app (goodIn_of _ (by decide +kernel)) ggX4_takes_X0_reshape
theorem dX4_takes_0 : decode cX4_takes 0 = .ok (.aload_n 0, 1) := by decide +kernel
theorem dX4_takes_1 : decode cX4_takes 1 = .ok (.getfield 10, 3) := by decide +kernel
theorem dX4_takes_4 : decode cX4_takes 4 = .ok (.aload_n 0, 1) := by decide +kernel
theorem dX4_takes_5 : decode cX4_takes 5 = .ok (.getfield 36, 3) := by decide +kernel
theorem dX4_takes_8 : decode cX4_takes 8 = .ok (.invokevirtual 63, 3) := by decide +kernel
theorem dX4_takes_11 : decode cX4_takes 11 = .ok (.istore_n 1, 1) := by decide +kernel
theorem dX4_takes_12 : decode cX4_takes 12 = .ok (.iload_n 1, 1) := by decide +kernel
theorem dX4_takes_13 : decode cX4_takes 13 = .ok (.ifCond .ne 6, 3) := by decide +kernel
theorem dX4_takes_16 : decode cX4_takes 16 = .ok (.bipush (-2), 2) := by decide +kernel
theorem dX4_takes_18 : decode cX4_takes 18 = .ok (.ireturn, 1) := by decide +kernel
theorem dX4_takes_19 : decode cX4_takes 19 = .ok (.aload_n 0, 1) := by decide +kernel
theorem dX4_takes_20 : decode cX4_takes 20 = .ok (.getfield 10, 3) := by decide +kernel
theorem dX4_takes_23 : decode cX4_takes 23 = .ok (.aload_n 0, 1) := by decide +kernel
theorem dX4_takes_24 : decode cX4_takes 24 = .ok (.getfield 36, 3) := by decide +kernel
theorem dX4_takes_27 : decode cX4_takes 27 = .ok (.invokevirtual 66, 3) := by decide +kernel
theorem dX4_takes_30 : decode cX4_takes 30 = .ok (.istore_n 2, 1) := by decide +kernel
theorem dX4_takes_31 : decode cX4_takes 31 = .ok (.aload_n 0, 1) := by decide +kernel
theorem dX4_takes_32 : decode cX4_takes 32 = .ok (.getfield 19, 3) := by decide +kernel
theorem dX4_takes_35 : decode cX4_takes 35 = .ok (.aload_n 0, 1) := by decide +kernel
theorem dX4_takes_36 : decode cX4_takes 36 = .ok (.getfield 36, 3) := by decide +kernel
theorem dX4_takes_39 : decode cX4_takes 39 = .ok (.iload_n 1, 1) := by decide +kernel
theorem dX4_takes_40 : decode cX4_takes 40 = .ok (.iload_n 2, 1) := by decide +kernel
theorem dX4_takes_41 : decode cX4_takes 41 = .ok (.invokevirtual 69, 3) := by decide +kernel
theorem dX4_takes_44 : decode cX4_takes 44 = .ok (.aload_n 0, 1) := by decide +kernel
theorem dX4_takes_45 : decode cX4_takes 45 = .ok (.getfield 10, 3) := by decide +kernel
theorem dX4_takes_48 : decode cX4_takes 48 = .ok (.aload_n 0, 1) := by decide +kernel
theorem dX4_takes_49 : decode cX4_takes 49 = .ok (.getfield 36, 3) := by decide +kernel
theorem dX4_takes_52 : decode cX4_takes 52 = .ok (.iload_n 1, 1) := by decide +kernel
theorem dX4_takes_53 : decode cX4_takes 53 = .ok (.iconst 1, 1) := by decide +kernel
theorem dX4_takes_54 : decode cX4_takes 54 = .ok (.isub, 1) := by decide +kernel
theorem dX4_takes_55 : decode cX4_takes 55 = .ok (.invokevirtual 73, 3) := by decide +kernel
theorem dX4_takes_58 : decode cX4_takes 58 = .ok (.aload_n 0, 1) := by decide +kernel
theorem dX4_takes_59 : decode cX4_takes 59 = .ok (.getfield 10, 3) := by decide +kernel
theorem dX4_takes_62 : decode cX4_takes 62 = .ok (.aload_n 0, 1) := by decide +kernel
theorem dX4_takes_63 : decode cX4_takes 63 = .ok (.getfield 36, 3) := by decide +kernel
theorem dX4_takes_66 : decode cX4_takes 66 = .ok (.iload_n 2, 1) := by decide +kernel
theorem dX4_takes_67 : decode cX4_takes 67 = .ok (.aload_n 0, 1) := by decide +kernel
theorem dX4_takes_68 : decode cX4_takes 68 = .ok (.getfield 10, 3) := by decide +kernel
theorem dX4_takes_71 : decode cX4_takes 71 = .ok (.aload_n 0, 1) := by decide +kernel
theorem dX4_takes_72 : decode cX4_takes 72 = .ok (.getfield 36, 3) := by decide +kernel
theorem dX4_takes_75 : decode cX4_takes 75 = .ok (.iload_n 2, 1) := by decide +kernel
theorem dX4_takes_76 : decode cX4_takes 76 = .ok (.aload_n 0, 1) := by decide +kernel
theorem dX4_takes_77 : decode cX4_takes 77 = .ok (.getfield 40, 3) := by decide +kernel
theorem dX4_takes_80 : decode cX4_takes 80 = .ok (.iconst 2, 1) := by decide +kernel
theorem dX4_takes_81 : decode cX4_takes 81 = .ok (.idiv, 1) := by decide +kernel
theorem dX4_takes_82 : decode cX4_takes 82 = .ok (.invokevirtual 84, 3) := by decide +kernel
theorem dX4_takes_85 : decode cX4_takes 85 = .ok (.invokevirtual 81, 3) := by decide +kernel
theorem dX4_takes_88 : decode cX4_takes 88 = .ok (.iload_n 1, 1) := by decide +kernel
theorem dX4_takes_89 : decode cX4_takes 89 = .ok (.iconst 1, 1) := by decide +kernel
theorem dX4_takes_90 : decode cX4_takes 90 = .ok (.isub, 1) := by decide +kernel
theorem dX4_takes_91 : decode cX4_takes 91 = .ok (.ireturn, 1) := by decide +kernel
set_option maxRecDepth 20000 in
theorem ggX4_undo_X1_size : GoodIn wsX4_undo wsX1_size := goodIn_r _ [7, 8, 101, 102, 103, 104] (by decide +kernel) (by decide +kernel)
set_option maxRecDepth 20000 in
theorem gX4_undo_X1_size : GoodIn wsX4_undo (wsV RX4 87 RX1 yX1_size wsX1_size) := goodIn_app (goodIn_of _ (by decide +kernel)) ggX4_undo_X1_size
set_option maxRecDepth 20000 in
theorem ggX4_undo_X1_lastWord : GoodIn wsX4_undo wsX1_lastWord := goodIn_r _ [12, 13, 8, 14, 15, 16, 6, 17, 101, 102, 103, 104] (by decide +kernel) (by decide +kernel)
set_option maxRecDepth 20000 in
theorem gX4_undo_X1_lastWord : GoodIn wsX4_undo (wsV RX4 88 RX1 yX1_lastWord wsX1_lastWord) := goodIn_app (goodIn_of _ (by decide +kernel)) ggX4_undo_X1_lastWord
set_option maxRecDepth 20000 in
theorem ggX4_undo_X0_depthOf : GoodIn wsX4_undo wsX0_depthOf := goodIn_r _ [22, 23, 24, 25, 26, 27, 28, 29, 30, 31, 32, 33, 21, 34, 35, 36, 37, 38, 39, 40, 41, 42, 43, 44, 45, 46, 47, 48, 49, 50, 51, 52, 53, 54, 105, 106, 107, 108] (by decide +kernel) (by decide +kernel)
set_option maxRecDepth 20000 in
theorem gX4_undo_X0_depthOf : GoodIn wsX4_undo (wsV RX4 66 RX0 yX0_depthOf wsX0_depthOf) := goodIn_app (goodIn_of _ (by decide +kernel)) ggX4_undo_X0_depthOf
set_option maxRecDepth 20000 in
theorem ggX4_undo_X1_lastOften : GoodIn wsX4_undo wsX1_lastOften := goodIn_r _ [58, 59, 8, 14, 15, 16, 6, 17, 101, 102, 103, 104] (by decide +kernel) (by decide +kernel)
set_option maxRecDepth 20000 in
theorem gX4_undo_X1_lastOften : GoodIn wsX4_undo (wsV RX4 92 RX1 yX1_lastOften wsX1_lastOften) := goodIn_app (goodIn_of _ (by decide +kernel)) ggX4_undo_X1_lastOften
set_option maxRecDepth 20000 in
theorem ggX4_undo_X0_put : GoodIn wsX4_undo wsX0_put := goodIn_r _ [63, 35, 64, 65, 66, 67, 21, 68, 23, 31, 32, 33, 34, 36, 37, 38, 39, 69, 70, 71, 72, 73, 74, 75, 76, 54, 77, 19, 20, 22, 24, 25, 26, 27, 28, 29, 30, 40, 41, 42, 43, 44, 45, 46, 47, 48, 49, 50, 51, 52, 53, 78, 79, 80, 81, 105, 106, 107, 108] (by decide +kernel) (by decide +kernel)
set_option maxRecDepth 20000 in
theorem gX4_undo_X0_put : GoodIn wsX4_undo (wsV RX4 73 RX0 yX0_put wsX0_put) := goodIn_app (goodIn_of _ (by decide +kernel)) ggX4_undo_X0_put
set_option maxRecDepth 20000 in
theorem ggX4_undo_X1_lastDepth : GoodIn wsX4_undo wsX1_lastDepth := goodIn_r _ [85, 86, 8, 14, 15, 16, 6, 17, 101, 102, 103, 104] (by decide +kernel) (by decide +kernel)
set_option maxRecDepth 20000 in
theorem gX4_undo_X1_lastDepth : GoodIn wsX4_undo (wsV RX4 95 RX1 yX1_lastDepth wsX1_lastDepth) := goodIn_app (goodIn_of _ (by decide +kernel)) ggX4_undo_X1_lastDepth
set_option maxRecDepth 20000 in
theorem ggX4_undo_X0_reshape : GoodIn wsX4_undo wsX0_reshape := goodIn_r _ [90, 24, 25, 26, 27, 23, 35, 54, 40, 41, 42, 43, 44, 45, 46, 47, 48, 49, 105, 106, 107, 108] (by decide +kernel) (by decide +kernel)
set_option maxRecDepth 20000 in
theorem gX4_undo_X0_reshape : GoodIn wsX4_undo (wsV RX4 81 RX0 yX0_reshape wsX0_reshape) := goodIn_app (goodIn_of _ (by decide +kernel)) ggX4_undo_X0_reshape
set_option maxRecDepth 20000 in
theorem ggX4_undo_X1_drop : GoodIn wsX4_undo wsX1_drop := goodIn_r _ [94, 8, 14, 15, 16, 6, 17, 101, 102, 103, 104] (by decide +kernel) (by decide +kernel)
set_option maxRecDepth 20000 in
theorem gX4_undo_X1_drop : GoodIn wsX4_undo (wsV RX4 98 RX1 yX1_drop wsX1_drop) := goodIn_app (goodIn_of _ (by decide +kernel)) ggX4_undo_X1_drop
theorem dX4_undo_0 : decode cX4_undo 0 = .ok (.aload_n 0, 1) := by decide +kernel
theorem dX4_undo_1 : decode cX4_undo 1 = .ok (.getfield 19, 3) := by decide +kernel
theorem dX4_undo_4 : decode cX4_undo 4 = .ok (.invokevirtual 87, 3) := by decide +kernel
theorem dX4_undo_7 : decode cX4_undo 7 = .ok (.ifCond .ne 6, 3) := by decide +kernel
theorem dX4_undo_10 : decode cX4_undo 10 = .ok (.bipush (-2), 2) := by decide +kernel
theorem dX4_undo_12 : decode cX4_undo 12 = .ok (.ireturn, 1) := by decide +kernel
theorem dX4_undo_13 : decode cX4_undo 13 = .ok (.aload_n 0, 1) := by decide +kernel
theorem dX4_undo_14 : decode cX4_undo 14 = .ok (.getfield 19, 3) := by decide +kernel
theorem dX4_undo_17 : decode cX4_undo 17 = .ok (.invokevirtual 88, 3) := by decide +kernel
theorem dX4_undo_20 : decode cX4_undo 20 = .ok (.lstore_n 1, 1) := by decide +kernel
theorem dX4_undo_21 : decode cX4_undo 21 = .ok (.aload_n 0, 1) := by decide +kernel
theorem dX4_undo_22 : decode cX4_undo 22 = .ok (.getfield 10, 3) := by decide +kernel
theorem dX4_undo_25 : decode cX4_undo 25 = .ok (.lload_n 1, 1) := by decide +kernel
theorem dX4_undo_26 : decode cX4_undo 26 = .ok (.invokevirtual 66, 3) := by decide +kernel
theorem dX4_undo_29 : decode cX4_undo 29 = .ok (.istore_n 3, 1) := by decide +kernel
theorem dX4_undo_30 : decode cX4_undo 30 = .ok (.aload_n 0, 1) := by decide +kernel
theorem dX4_undo_31 : decode cX4_undo 31 = .ok (.getfield 10, 3) := by decide +kernel
theorem dX4_undo_34 : decode cX4_undo 34 = .ok (.lload_n 1, 1) := by decide +kernel
theorem dX4_undo_35 : decode cX4_undo 35 = .ok (.aload_n 0, 1) := by decide +kernel
theorem dX4_undo_36 : decode cX4_undo 36 = .ok (.getfield 19, 3) := by decide +kernel
theorem dX4_undo_39 : decode cX4_undo 39 = .ok (.invokevirtual 92, 3) := by decide +kernel
theorem dX4_undo_42 : decode cX4_undo 42 = .ok (.invokevirtual 73, 3) := by decide +kernel
theorem dX4_undo_45 : decode cX4_undo 45 = .ok (.aload_n 0, 1) := by decide +kernel
theorem dX4_undo_46 : decode cX4_undo 46 = .ok (.getfield 10, 3) := by decide +kernel
theorem dX4_undo_49 : decode cX4_undo 49 = .ok (.lload_n 1, 1) := by decide +kernel
theorem dX4_undo_50 : decode cX4_undo 50 = .ok (.iload_n 3, 1) := by decide +kernel
theorem dX4_undo_51 : decode cX4_undo 51 = .ok (.aload_n 0, 1) := by decide +kernel
theorem dX4_undo_52 : decode cX4_undo 52 = .ok (.getfield 19, 3) := by decide +kernel
theorem dX4_undo_55 : decode cX4_undo 55 = .ok (.invokevirtual 95, 3) := by decide +kernel
theorem dX4_undo_58 : decode cX4_undo 58 = .ok (.invokevirtual 81, 3) := by decide +kernel
theorem dX4_undo_61 : decode cX4_undo 61 = .ok (.aload_n 0, 1) := by decide +kernel
theorem dX4_undo_62 : decode cX4_undo 62 = .ok (.getfield 19, 3) := by decide +kernel
theorem dX4_undo_65 : decode cX4_undo 65 = .ok (.invokevirtual 98, 3) := by decide +kernel
theorem dX4_undo_68 : decode cX4_undo 68 = .ok (.aload_n 0, 1) := by decide +kernel
theorem dX4_undo_69 : decode cX4_undo 69 = .ok (.getfield 19, 3) := by decide +kernel
theorem dX4_undo_72 : decode cX4_undo 72 = .ok (.invokevirtual 87, 3) := by decide +kernel
theorem dX4_undo_75 : decode cX4_undo 75 = .ok (.ireturn, 1) := by decide +kernel
set_option maxRecDepth 20000 in
theorem ggX4_times_X0_oftenOf : GoodIn wsX4_times wsX0_oftenOf := goodIn_r _ [7, 8, 9, 10, 6, 11, 12, 13, 14, 15, 16, 17, 18, 19, 20, 21, 22, 23, 24, 25, 26, 33, 34, 35, 36] (by decide +kernel) (by decide +kernel)
set_option maxRecDepth 20000 in
theorem gX4_times_X0_oftenOf : GoodIn wsX4_times (wsV RX4 63 RX0 yX0_oftenOf wsX0_oftenOf) := goodIn_app (goodIn_of _ (by decide +kernel)) ggX4_times_X0_oftenOf
theorem dX4_times_0 : decode cX4_times 0 = .ok (.aload_n 0, 1) := by decide +kernel
theorem dX4_times_1 : decode cX4_times 1 = .ok (.getfield 10, 3) := by decide +kernel
theorem dX4_times_4 : decode cX4_times 4 = .ok (.aload_n 0, 1) := by decide +kernel
theorem dX4_times_5 : decode cX4_times 5 = .ok (.getfield 36, 3) := by decide +kernel
theorem dX4_times_8 : decode cX4_times 8 = .ok (.invokevirtual 63, 3) := by decide +kernel
theorem dX4_times_11 : decode cX4_times 11 = .ok (.ireturn, 1) := by decide +kernel
set_option maxRecDepth 20000 in
theorem ggX4_rank_X0_placeOf : GoodIn wsX4_rank wsX0_placeOf := goodIn_r _ [7, 8, 9, 10, 11, 6, 12, 13, 14, 15, 16, 17, 33, 34, 35, 36] (by decide +kernel) (by decide +kernel)
set_option maxRecDepth 20000 in
theorem gX4_rank_X0_placeOf : GoodIn wsX4_rank (wsV RX4 101 RX0 yX0_placeOf wsX0_placeOf) := goodIn_app (goodIn_of _ (by decide +kernel)) ggX4_rank_X0_placeOf
set_option maxRecDepth 20000 in
theorem ggX4_rank_X0_oftenBelow : GoodIn wsX4_rank wsX0_oftenBelow := goodIn_r _ [21, 8, 22, 23, 24, 6, 25, 26, 14, 15, 16, 17, 33, 34, 35, 36] (by decide +kernel) (by decide +kernel)
set_option maxRecDepth 20000 in
theorem gX4_rank_X0_oftenBelow : GoodIn wsX4_rank (wsV RX4 104 RX0 yX0_oftenBelow wsX0_oftenBelow) := goodIn_app (goodIn_of _ (by decide +kernel)) ggX4_rank_X0_oftenBelow
theorem dX4_rank_0 : decode cX4_rank 0 = .ok (.aload_n 0, 1) := by decide +kernel
theorem dX4_rank_1 : decode cX4_rank 1 = .ok (.getfield 10, 3) := by decide +kernel
theorem dX4_rank_4 : decode cX4_rank 4 = .ok (.aload_n 0, 1) := by decide +kernel
theorem dX4_rank_5 : decode cX4_rank 5 = .ok (.getfield 10, 3) := by decide +kernel
theorem dX4_rank_8 : decode cX4_rank 8 = .ok (.aload_n 0, 1) := by decide +kernel
theorem dX4_rank_9 : decode cX4_rank 9 = .ok (.getfield 36, 3) := by decide +kernel
theorem dX4_rank_12 : decode cX4_rank 12 = .ok (.invokevirtual 101, 3) := by decide +kernel
theorem dX4_rank_15 : decode cX4_rank 15 = .ok (.invokevirtual 104, 3) := by decide +kernel
theorem dX4_rank_18 : decode cX4_rank 18 = .ok (.ireturn, 1) := by decide +kernel
set_option maxRecDepth 20000 in
theorem ggX4_begin_X0_oftenBegun : GoodIn wsX4_begin wsX0_oftenBegun := goodIn_r _ [7, 8, 9, 10, 11, 6, 12, 13, 14, 15, 16, 17, 18, 19, 20, 21, 22, 23, 24, 25, 26, 27, 28, 29, 30, 31, 32, 33, 34, 35, 36, 37, 38, 45, 46, 47, 48] (by decide +kernel) (by decide +kernel)
set_option maxRecDepth 20000 in
theorem gX4_begin_X0_oftenBegun : GoodIn wsX4_begin (wsV RX4 108 RX0 yX0_oftenBegun wsX0_oftenBegun) := goodIn_app (goodIn_of _ (by decide +kernel)) ggX4_begin_X0_oftenBegun
theorem dX4_begin_0 : decode cX4_begin 0 = .ok (.aload_n 0, 1) := by decide +kernel
theorem dX4_begin_1 : decode cX4_begin 1 = .ok (.getfield 10, 3) := by decide +kernel
theorem dX4_begin_4 : decode cX4_begin 4 = .ok (.aload_n 0, 1) := by decide +kernel
theorem dX4_begin_5 : decode cX4_begin 5 = .ok (.getfield 36, 3) := by decide +kernel
theorem dX4_begin_8 : decode cX4_begin 8 = .ok (.invokevirtual 108, 3) := by decide +kernel
theorem dX4_begin_11 : decode cX4_begin 11 = .ok (.ireturn, 1) := by decide +kernel
set_option maxRecDepth 20000 in
theorem ggX4_depth_X0_depthOf : GoodIn wsX4_depth wsX0_depthOf := goodIn_r _ [7, 8, 9, 10, 11, 12, 13, 14, 15, 16, 17, 18, 6, 19, 20, 21, 22, 23, 24, 25, 26, 27, 28, 29, 30, 31, 32, 33, 34, 35, 36, 37, 38, 39, 46, 47, 48, 49] (by decide +kernel) (by decide +kernel)
set_option maxRecDepth 20000 in
theorem gX4_depth_X0_depthOf : GoodIn wsX4_depth (wsV RX4 66 RX0 yX0_depthOf wsX0_depthOf) := goodIn_app (goodIn_of _ (by decide +kernel)) ggX4_depth_X0_depthOf
theorem dX4_depth_0 : decode cX4_depth 0 = .ok (.aload_n 0, 1) := by decide +kernel
theorem dX4_depth_1 : decode cX4_depth 1 = .ok (.getfield 10, 3) := by decide +kernel
theorem dX4_depth_4 : decode cX4_depth 4 = .ok (.aload_n 0, 1) := by decide +kernel
theorem dX4_depth_5 : decode cX4_depth 5 = .ok (.getfield 36, 3) := by decide +kernel
theorem dX4_depth_8 : decode cX4_depth 8 = .ok (.invokevirtual 66, 3) := by decide +kernel
theorem dX4_depth_11 : decode cX4_depth 11 = .ok (.ireturn, 1) := by decide +kernel
set_option maxRecDepth 20000 in
theorem ggX4_container_X4_isHalf : GoodIn wsX4_container wsX4_isHalf := goodIn_r _ [6] (by decide +kernel) (by decide +kernel)
set_option maxRecDepth 20000 in
theorem gX4_container_X4_isHalf : GoodIn wsX4_container (va_wsS RX4 111 yX4_isHalf wsX4_isHalf) := goodIn_app (goodIn_of _ (by decide +kernel)) ggX4_container_X4_isHalf
set_option maxRecDepth 20000 in
theorem ggX4_container_X0_depthOf : GoodIn wsX4_container wsX0_depthOf := goodIn_r _ [11, 12, 13, 14, 15, 16, 17, 18, 19, 20, 21, 22, 10, 23, 24, 25, 26, 27, 28, 29, 30, 31, 32, 33, 34, 35, 36, 37, 38, 39, 40, 41, 42, 43, 57, 58, 59, 60] (by decide +kernel) (by decide +kernel)
set_option maxRecDepth 20000 in
theorem gX4_container_X0_depthOf : GoodIn wsX4_container (wsV RX4 66 RX0 yX0_depthOf wsX0_depthOf) := goodIn_app (goodIn_of _ (by decide +kernel)) ggX4_container_X0_depthOf
set_option maxRecDepth 20000 in
theorem ggX4_container_X3_lengthOf : GoodIn wsX4_container wsX3_lengthOf := goodIn_r _ [46, 33, 34, 31, 35, 36, 37, 38] (by decide +kernel) (by decide +kernel)
set_option maxRecDepth 20000 in
theorem gX4_container_X3_lengthOf : GoodIn wsX4_container (va_wsS RX4 48 yX3_lengthOf wsX3_lengthOf) := goodIn_app (goodIn_of _ (by decide +kernel)) ggX4_container_X3_lengthOf
set_option maxRecDepth 20000 in
theorem ggX4_container_X0_sharing : GoodIn wsX4_container wsX0_sharing := goodIn_r _ [50, 12, 20, 21, 22, 10, 23, 24, 25, 26, 27, 28, 29, 30, 31, 32, 33, 34, 35, 36, 37, 38, 57, 58, 59, 60] (by decide +kernel) (by decide +kernel)
set_option maxRecDepth 20000 in
theorem gX4_container_X0_sharing : GoodIn wsX4_container (wsV RX4 114 RX0 yX0_sharing wsX0_sharing) := goodIn_app (goodIn_of _ (by decide +kernel)) ggX4_container_X0_sharing
theorem dX4_container_0 : decode cX4_container 0 = .ok (.iload_n 1, 1) := by decide +kernel
theorem dX4_container_1 : decode cX4_container 1 = .ok (.invokestatic 111, 3) := by decide +kernel
theorem dX4_container_4 : decode cX4_container 4 = .ok (.ifCond .ne 5, 3) := by decide +kernel
theorem dX4_container_7 : decode cX4_container 7 = .ok (.iconst (-1), 1) := by decide +kernel
theorem dX4_container_8 : decode cX4_container 8 = .ok (.ireturn, 1) := by decide +kernel
theorem dX4_container_9 : decode cX4_container 9 = .ok (.aload_n 0, 1) := by decide +kernel
theorem dX4_container_10 : decode cX4_container 10 = .ok (.getfield 10, 3) := by decide +kernel
theorem dX4_container_13 : decode cX4_container 13 = .ok (.aload_n 0, 1) := by decide +kernel
theorem dX4_container_14 : decode cX4_container 14 = .ok (.getfield 36, 3) := by decide +kernel
theorem dX4_container_17 : decode cX4_container 17 = .ok (.invokevirtual 66, 3) := by decide +kernel
theorem dX4_container_20 : decode cX4_container 20 = .ok (.istore_n 2, 1) := by decide +kernel
theorem dX4_container_21 : decode cX4_container 21 = .ok (.iload_n 2, 1) := by decide +kernel
theorem dX4_container_22 : decode cX4_container 22 = .ok (.aload_n 0, 1) := by decide +kernel
theorem dX4_container_23 : decode cX4_container 23 = .ok (.getfield 36, 3) := by decide +kernel
theorem dX4_container_26 : decode cX4_container 26 = .ok (.invokestatic 48, 3) := by decide +kernel
theorem dX4_container_29 : decode cX4_container 29 = .ok (.if_icmp .le 6, 3) := by decide +kernel
theorem dX4_container_32 : decode cX4_container 32 = .ok (.bipush (-9), 2) := by decide +kernel
theorem dX4_container_34 : decode cX4_container 34 = .ok (.ireturn, 1) := by decide +kernel
theorem dX4_container_35 : decode cX4_container 35 = .ok (.aload_n 0, 1) := by decide +kernel
theorem dX4_container_36 : decode cX4_container 36 = .ok (.getfield 10, 3) := by decide +kernel
theorem dX4_container_39 : decode cX4_container 39 = .ok (.aload_n 0, 1) := by decide +kernel
theorem dX4_container_40 : decode cX4_container 40 = .ok (.getfield 36, 3) := by decide +kernel
theorem dX4_container_43 : decode cX4_container 43 = .ok (.iload_n 2, 1) := by decide +kernel
theorem dX4_container_44 : decode cX4_container 44 = .ok (.invokevirtual 114, 3) := by decide +kernel
theorem dX4_container_47 : decode cX4_container 47 = .ok (.istore_n 3, 1) := by decide +kernel
theorem dX4_container_48 : decode cX4_container 48 = .ok (.iload_n 3, 1) := by decide +kernel
theorem dX4_container_49 : decode cX4_container 49 = .ok (.ifCond .ne 6, 3) := by decide +kernel
theorem dX4_container_52 : decode cX4_container 52 = .ok (.bipush (-9), 2) := by decide +kernel
theorem dX4_container_54 : decode cX4_container 54 = .ok (.ireturn, 1) := by decide +kernel
theorem dX4_container_55 : decode cX4_container 55 = .ok (.iload_n 1, 1) := by decide +kernel
theorem dX4_container_56 : decode cX4_container 56 = .ok (.ifCond .ne 7, 3) := by decide +kernel
theorem dX4_container_59 : decode cX4_container 59 = .ok (.iload_n 3, 1) := by decide +kernel
theorem dX4_container_60 : decode cX4_container 60 = .ok (.goto 4, 3) := by decide +kernel
theorem dX4_container_63 : decode cX4_container 63 = .ok (.iload_n 2, 1) := by decide +kernel
theorem dX4_container_64 : decode cX4_container 64 = .ok (.ireturn, 1) := by decide +kernel
set_option maxRecDepth 20000 in
theorem ggX4_telling_X0_oftenOf : GoodIn wsX4_telling wsX0_oftenOf := goodIn_r _ [7, 8, 9, 10, 6, 11, 12, 13, 14, 15, 16, 17, 18, 19, 20, 21, 22, 23, 24, 25, 26, 51, 52, 53, 54] (by decide +kernel) (by decide +kernel)
set_option maxRecDepth 20000 in
theorem gX4_telling_X0_oftenOf : GoodIn wsX4_telling (wsV RX4 63 RX0 yX0_oftenOf wsX0_oftenOf) := goodIn_app (goodIn_of _ (by decide +kernel)) ggX4_telling_X0_oftenOf
set_option maxRecDepth 20000 in
theorem ggX4_telling_X0_mostSharedWithOthers : GoodIn wsX4_telling wsX0_mostSharedWithOthers := goodIn_r _ [30, 12, 31, 32, 33, 34, 13, 14, 15, 6, 16, 17, 18, 19, 20, 21, 35, 36, 37, 38, 39, 40, 41, 42, 43, 44, 51, 52, 53, 54] (by decide +kernel) (by decide +kernel)
set_option maxRecDepth 20000 in
theorem gX4_telling_X0_mostSharedWithOthers : GoodIn wsX4_telling (wsV RX4 118 RX0 yX0_mostSharedWithOthers wsX0_mostSharedWithOthers) := goodIn_app (goodIn_of _ (by decide +kernel)) ggX4_telling_X0_mostSharedWithOthers
theorem dX4_telling_0 : decode cX4_telling 0 = .ok (.aload_n 0, 1) := by decide +kernel
theorem dX4_telling_1 : decode cX4_telling 1 = .ok (.getfield 10, 3) := by decide +kernel
theorem dX4_telling_4 : decode cX4_telling 4 = .ok (.aload_n 0, 1) := by decide +kernel
theorem dX4_telling_5 : decode cX4_telling 5 = .ok (.getfield 36, 3) := by decide +kernel
theorem dX4_telling_8 : decode cX4_telling 8 = .ok (.invokevirtual 63, 3) := by decide +kernel
theorem dX4_telling_11 : decode cX4_telling 11 = .ok (.ifCond .ne 6, 3) := by decide +kernel
theorem dX4_telling_14 : decode cX4_telling 14 = .ok (.bipush (-9), 2) := by decide +kernel
theorem dX4_telling_16 : decode cX4_telling 16 = .ok (.ireturn, 1) := by decide +kernel
theorem dX4_telling_17 : decode cX4_telling 17 = .ok (.aload_n 0, 1) := by decide +kernel
theorem dX4_telling_18 : decode cX4_telling 18 = .ok (.getfield 10, 3) := by decide +kernel
theorem dX4_telling_21 : decode cX4_telling 21 = .ok (.aload_n 0, 1) := by decide +kernel
theorem dX4_telling_22 : decode cX4_telling 22 = .ok (.getfield 36, 3) := by decide +kernel
theorem dX4_telling_25 : decode cX4_telling 25 = .ok (.invokevirtual 118, 3) := by decide +kernel
theorem dX4_telling_28 : decode cX4_telling 28 = .ok (.iconst 1, 1) := by decide +kernel
theorem dX4_telling_29 : decode cX4_telling 29 = .ok (.iadd, 1) := by decide +kernel
theorem dX4_telling_30 : decode cX4_telling 30 = .ok (.ireturn, 1) := by decide +kernel
set_option maxRecDepth 20000 in
theorem ggX4_longest_X0_longestIn : GoodIn wsX4_longest wsX0_longestIn := goodIn_r _ [7, 8, 9, 10, 11, 12, 13, 14, 15, 6, 16, 17, 18, 19, 20, 21, 22, 23, 24, 25, 26, 27, 28, 29, 30, 31, 32, 33, 34, 35, 36, 37, 38, 45, 46, 47, 48] (by decide +kernel) (by decide +kernel)
set_option maxRecDepth 20000 in
theorem gX4_longest_X0_longestIn : GoodIn wsX4_longest (wsV RX4 121 RX0 yX0_longestIn wsX0_longestIn) := goodIn_app (goodIn_of _ (by decide +kernel)) ggX4_longest_X0_longestIn
theorem dX4_longest_0 : decode cX4_longest 0 = .ok (.aload_n 0, 1) := by decide +kernel
theorem dX4_longest_1 : decode cX4_longest 1 = .ok (.getfield 10, 3) := by decide +kernel
theorem dX4_longest_4 : decode cX4_longest 4 = .ok (.aload_n 0, 1) := by decide +kernel
theorem dX4_longest_5 : decode cX4_longest 5 = .ok (.getfield 36, 3) := by decide +kernel
theorem dX4_longest_8 : decode cX4_longest 8 = .ok (.invokevirtual 121, 3) := by decide +kernel
theorem dX4_longest_11 : decode cX4_longest 11 = .ok (.istore_n 1, 1) := by decide +kernel
theorem dX4_longest_12 : decode cX4_longest 12 = .ok (.iload_n 1, 1) := by decide +kernel
theorem dX4_longest_13 : decode cX4_longest 13 = .ok (.ifCond .ne 8, 3) := by decide +kernel
theorem dX4_longest_16 : decode cX4_longest 16 = .ok (.bipush (-9), 2) := by decide +kernel
theorem dX4_longest_18 : decode cX4_longest 18 = .ok (.goto 4, 3) := by decide +kernel
theorem dX4_longest_21 : decode cX4_longest 21 = .ok (.iload_n 1, 1) := by decide +kernel
theorem dX4_longest_22 : decode cX4_longest 22 = .ok (.ireturn, 1) := by decide +kernel
set_option maxRecDepth 20000 in
theorem ggX4_like_X0_alike : GoodIn wsX4_like wsX0_alike := goodIn_r _ [7, 8, 9, 10, 11, 12, 13, 14, 15, 16, 17, 18, 19, 20, 21, 6, 22, 23, 24, 25, 26, 27, 28, 29, 30, 37, 38, 39, 40] (by decide +kernel) (by decide +kernel)
set_option maxRecDepth 20000 in
theorem gX4_like_X0_alike : GoodIn wsX4_like (wsV RX4 124 RX0 yX0_alike wsX0_alike) := goodIn_app (goodIn_of _ (by decide +kernel)) ggX4_like_X0_alike
theorem dX4_like_0 : decode cX4_like 0 = .ok (.iload_n 1, 1) := by decide +kernel
theorem dX4_like_1 : decode cX4_like 1 = .ok (.ifCond .lt 9, 3) := by decide +kernel
theorem dX4_like_4 : decode cX4_like 4 = .ok (.iload_n 1, 1) := by decide +kernel
theorem dX4_like_5 : decode cX4_like 5 = .ok (.bipush 7, 2) := by decide +kernel
theorem dX4_like_7 : decode cX4_like 7 = .ok (.if_icmp .le 5, 3) := by decide +kernel
theorem dX4_like_10 : decode cX4_like 10 = .ok (.iconst (-1), 1) := by decide +kernel
theorem dX4_like_11 : decode cX4_like 11 = .ok (.ireturn, 1) := by decide +kernel
theorem dX4_like_12 : decode cX4_like 12 = .ok (.aload_n 0, 1) := by decide +kernel
theorem dX4_like_13 : decode cX4_like 13 = .ok (.getfield 10, 3) := by decide +kernel
theorem dX4_like_16 : decode cX4_like 16 = .ok (.aload_n 0, 1) := by decide +kernel
theorem dX4_like_17 : decode cX4_like 17 = .ok (.getfield 36, 3) := by decide +kernel
theorem dX4_like_20 : decode cX4_like 20 = .ok (.iload_n 1, 1) := by decide +kernel
theorem dX4_like_21 : decode cX4_like 21 = .ok (.invokevirtual 124, 3) := by decide +kernel
theorem dX4_like_24 : decode cX4_like 24 = .ok (.ireturn, 1) := by decide +kernel
set_option maxRecDepth 20000 in
theorem ggX4_odds_X4_isHalf : GoodIn wsX4_odds wsX4_isHalf := goodIn_r _ [6] (by decide +kernel) (by decide +kernel)
set_option maxRecDepth 20000 in
theorem gX4_odds_X4_isHalf : GoodIn wsX4_odds (va_wsS RX4 111 yX4_isHalf wsX4_isHalf) := goodIn_app (goodIn_of _ (by decide +kernel)) ggX4_odds_X4_isHalf
set_option maxRecDepth 20000 in
theorem ggX4_odds_X0_size : GoodIn wsX4_odds wsX0_size := goodIn_r _ [11, 12, 60, 61, 62, 63] (by decide +kernel) (by decide +kernel)
set_option maxRecDepth 20000 in
theorem gX4_odds_X0_size : GoodIn wsX4_odds (wsV RX4 56 RX0 yX0_size wsX0_size) := goodIn_app (goodIn_of _ (by decide +kernel)) ggX4_odds_X0_size
set_option maxRecDepth 20000 in
theorem ggX4_odds_X0_oftenBelow : GoodIn wsX4_odds wsX0_oftenBelow := goodIn_r _ [16, 12, 17, 18, 19, 10, 20, 21, 22, 23, 24, 25, 60, 61, 62, 63] (by decide +kernel) (by decide +kernel)
set_option maxRecDepth 20000 in
theorem gX4_odds_X0_oftenBelow : GoodIn wsX4_odds (wsV RX4 104 RX0 yX0_oftenBelow wsX0_oftenBelow) := goodIn_app (goodIn_of _ (by decide +kernel)) ggX4_odds_X0_oftenBelow
set_option maxRecDepth 20000 in
theorem ggX4_odds_X0_oftenBegun : GoodIn wsX4_odds wsX0_oftenBegun := goodIn_r _ [29, 12, 30, 31, 32, 10, 33, 34, 22, 23, 24, 25, 35, 36, 37, 38, 39, 40, 41, 42, 43, 44, 45, 46, 47, 48, 49, 50, 17, 18, 19, 20, 21, 60, 61, 62, 63] (by decide +kernel) (by decide +kernel)
set_option maxRecDepth 20000 in
theorem gX4_odds_X0_oftenBegun : GoodIn wsX4_odds (wsV RX4 108 RX0 yX0_oftenBegun wsX0_oftenBegun) := goodIn_app (goodIn_of _ (by decide +kernel)) ggX4_odds_X0_oftenBegun
set_option maxRecDepth 20000 in
theorem ggX4_odds_X4_commonDivisor : GoodIn wsX4_odds wsX4_commonDivisor := goodIn_r _ [53] (by decide +kernel) (by decide +kernel)
set_option maxRecDepth 20000 in
theorem gX4_odds_X4_commonDivisor : GoodIn wsX4_odds (va_wsS RX4 127 yX4_commonDivisor wsX4_commonDivisor) := goodIn_app (goodIn_of _ (by decide +kernel)) ggX4_odds_X4_commonDivisor
theorem dX4_odds_0 : decode cX4_odds 0 = .ok (.iload_n 1, 1) := by decide +kernel
theorem dX4_odds_1 : decode cX4_odds 1 = .ok (.invokestatic 111, 3) := by decide +kernel
theorem dX4_odds_4 : decode cX4_odds 4 = .ok (.ifCond .ne 5, 3) := by decide +kernel
theorem dX4_odds_7 : decode cX4_odds 7 = .ok (.iconst (-1), 1) := by decide +kernel
theorem dX4_odds_8 : decode cX4_odds 8 = .ok (.ireturn, 1) := by decide +kernel
theorem dX4_odds_9 : decode cX4_odds 9 = .ok (.aload_n 0, 1) := by decide +kernel
theorem dX4_odds_10 : decode cX4_odds 10 = .ok (.getfield 10, 3) := by decide +kernel
theorem dX4_odds_13 : decode cX4_odds 13 = .ok (.aload_n 0, 1) := by decide +kernel
theorem dX4_odds_14 : decode cX4_odds 14 = .ok (.getfield 10, 3) := by decide +kernel
theorem dX4_odds_17 : decode cX4_odds 17 = .ok (.invokevirtual 56, 3) := by decide +kernel
theorem dX4_odds_20 : decode cX4_odds 20 = .ok (.invokevirtual 104, 3) := by decide +kernel
theorem dX4_odds_23 : decode cX4_odds 23 = .ok (.istore_n 2, 1) := by decide +kernel
theorem dX4_odds_24 : decode cX4_odds 24 = .ok (.aload_n 0, 1) := by decide +kernel
theorem dX4_odds_25 : decode cX4_odds 25 = .ok (.getfield 10, 3) := by decide +kernel
theorem dX4_odds_28 : decode cX4_odds 28 = .ok (.aload_n 0, 1) := by decide +kernel
theorem dX4_odds_29 : decode cX4_odds 29 = .ok (.getfield 36, 3) := by decide +kernel
theorem dX4_odds_32 : decode cX4_odds 32 = .ok (.invokevirtual 108, 3) := by decide +kernel
theorem dX4_odds_35 : decode cX4_odds 35 = .ok (.istore_n 3, 1) := by decide +kernel
theorem dX4_odds_36 : decode cX4_odds 36 = .ok (.iload_n 2, 1) := by decide +kernel
theorem dX4_odds_37 : decode cX4_odds 37 = .ok (.iload_n 3, 1) := by decide +kernel
theorem dX4_odds_38 : decode cX4_odds 38 = .ok (.invokestatic 127, 3) := by decide +kernel
theorem dX4_odds_41 : decode cX4_odds 41 = .ok (.istore 4, 2) := by decide +kernel
theorem dX4_odds_43 : decode cX4_odds 43 = .ok (.iload 4, 2) := by decide +kernel
theorem dX4_odds_45 : decode cX4_odds 45 = .ok (.ifCond .gt 5, 3) := by decide +kernel
theorem dX4_odds_48 : decode cX4_odds 48 = .ok (.iload_n 1, 1) := by decide +kernel
theorem dX4_odds_49 : decode cX4_odds 49 = .ok (.ireturn, 1) := by decide +kernel
theorem dX4_odds_50 : decode cX4_odds 50 = .ok (.iload_n 1, 1) := by decide +kernel
theorem dX4_odds_51 : decode cX4_odds 51 = .ok (.ifCond .ne 7, 3) := by decide +kernel
theorem dX4_odds_54 : decode cX4_odds 54 = .ok (.iload_n 3, 1) := by decide +kernel
theorem dX4_odds_55 : decode cX4_odds 55 = .ok (.goto 4, 3) := by decide +kernel
theorem dX4_odds_58 : decode cX4_odds 58 = .ok (.iload_n 2, 1) := by decide +kernel
theorem dX4_odds_59 : decode cX4_odds 59 = .ok (.iload 4, 2) := by decide +kernel
theorem dX4_odds_61 : decode cX4_odds 61 = .ok (.idiv, 1) := by decide +kernel
theorem dX4_odds_62 : decode cX4_odds 62 = .ok (.ireturn, 1) := by decide +kernel
set_option maxRecDepth 20000 in
theorem ggX4_kth_X4_isAsked : GoodIn wsX4_kth wsX4_isAsked := goodIn_r _ [5] (by decide +kernel) (by decide +kernel)
set_option maxRecDepth 20000 in
theorem gX4_kth_X4_isAsked : GoodIn wsX4_kth (va_wsS RX4 131 yX4_isAsked wsX4_isAsked) := goodIn_app (goodIn_of _ (by decide +kernel)) ggX4_kth_X4_isAsked
set_option maxRecDepth 20000 in
theorem ggX4_kth_X0_holderOf : GoodIn wsX4_kth wsX0_holderOf := goodIn_r _ [10, 11, 12, 13, 14, 9, 15, 16, 17, 18, 19, 20, 51, 52, 53, 54] (by decide +kernel) (by decide +kernel)
set_option maxRecDepth 20000 in
theorem gX4_kth_X0_holderOf : GoodIn wsX4_kth (wsV RX4 134 RX0 yX0_holderOf wsX0_holderOf) := goodIn_app (goodIn_of _ (by decide +kernel)) ggX4_kth_X0_holderOf
set_option maxRecDepth 20000 in
theorem ggX4_kth_X4_told : GoodIn wsX4_kth wsX4_told := goodIn_r _ [24, 1, 25, 26, 27, 9, 28, 11, 29, 30, 31, 32, 33, 17, 18, 19, 20, 34, 35, 36, 37, 38, 39, 40, 41, 42, 43, 44, 45, 46, 47, 48, 49, 50, 51, 52, 53, 54] (by decide +kernel) (by decide +kernel)
set_option maxRecDepth 20000 in
theorem gX4_kth_X4_told : GoodIn wsX4_kth (wsV RX4 137 RX4 yX4_told wsX4_told) := goodIn_app (goodIn_of _ (by decide +kernel)) ggX4_kth_X4_told
theorem dX4_kth_0 : decode cX4_kth 0 = .ok (.iload_n 1, 1) := by decide +kernel
theorem dX4_kth_1 : decode cX4_kth 1 = .ok (.ifCond .lt 10, 3) := by decide +kernel
theorem dX4_kth_4 : decode cX4_kth 4 = .ok (.iload_n 2, 1) := by decide +kernel
theorem dX4_kth_5 : decode cX4_kth 5 = .ok (.invokestatic 131, 3) := by decide +kernel
theorem dX4_kth_8 : decode cX4_kth 8 = .ok (.ifCond .ne 5, 3) := by decide +kernel
theorem dX4_kth_11 : decode cX4_kth 11 = .ok (.iconst (-1), 1) := by decide +kernel
theorem dX4_kth_12 : decode cX4_kth 12 = .ok (.ireturn, 1) := by decide +kernel
theorem dX4_kth_13 : decode cX4_kth 13 = .ok (.aload_n 0, 1) := by decide +kernel
theorem dX4_kth_14 : decode cX4_kth 14 = .ok (.aload_n 0, 1) := by decide +kernel
theorem dX4_kth_15 : decode cX4_kth 15 = .ok (.getfield 10, 3) := by decide +kernel
theorem dX4_kth_18 : decode cX4_kth 18 = .ok (.iload_n 1, 1) := by decide +kernel
theorem dX4_kth_19 : decode cX4_kth 19 = .ok (.invokevirtual 134, 3) := by decide +kernel
theorem dX4_kth_22 : decode cX4_kth 22 = .ok (.iload_n 2, 1) := by decide +kernel
theorem dX4_kth_23 : decode cX4_kth 23 = .ok (.invokevirtual 137, 3) := by decide +kernel
theorem dX4_kth_26 : decode cX4_kth 26 = .ok (.ireturn, 1) := by decide +kernel
set_option maxRecDepth 20000 in
theorem ggX4_unlike_X4_isAsked : GoodIn wsX4_unlike wsX4_isAsked := goodIn_r _ [4] (by decide +kernel) (by decide +kernel)
set_option maxRecDepth 20000 in
theorem gX4_unlike_X4_isAsked : GoodIn wsX4_unlike (va_wsS RX4 131 yX4_isAsked wsX4_isAsked) := goodIn_app (goodIn_of _ (by decide +kernel)) ggX4_unlike_X4_isAsked
set_option maxRecDepth 20000 in
theorem ggX4_unlike_X4_told : GoodIn wsX4_unlike wsX4_told := goodIn_r _ [8, 9, 10, 11, 12, 13, 14, 15, 16, 17, 18, 19, 20, 21, 22, 23, 24, 25, 26, 27, 28, 29, 30, 31, 32, 33, 34, 35, 36, 37, 38, 39, 40, 41, 42, 43, 44, 45] (by decide +kernel) (by decide +kernel)
set_option maxRecDepth 20000 in
theorem gX4_unlike_X4_told : GoodIn wsX4_unlike (wsV RX4 137 RX4 yX4_told wsX4_told) := goodIn_app (goodIn_of _ (by decide +kernel)) ggX4_unlike_X4_told
theorem dX4_unlike_0 : decode cX4_unlike 0 = .ok (.iload_n 1, 1) := by decide +kernel
theorem dX4_unlike_1 : decode cX4_unlike 1 = .ok (.ifCond .lt 10, 3) := by decide +kernel
theorem dX4_unlike_4 : decode cX4_unlike 4 = .ok (.iload_n 2, 1) := by decide +kernel
theorem dX4_unlike_5 : decode cX4_unlike 5 = .ok (.invokestatic 131, 3) := by decide +kernel
theorem dX4_unlike_8 : decode cX4_unlike 8 = .ok (.ifCond .ne 5, 3) := by decide +kernel
theorem dX4_unlike_11 : decode cX4_unlike 11 = .ok (.iconst (-1), 1) := by decide +kernel
theorem dX4_unlike_12 : decode cX4_unlike 12 = .ok (.ireturn, 1) := by decide +kernel
theorem dX4_unlike_13 : decode cX4_unlike 13 = .ok (.aload_n 0, 1) := by decide +kernel
theorem dX4_unlike_14 : decode cX4_unlike 14 = .ok (.iload_n 1, 1) := by decide +kernel
theorem dX4_unlike_15 : decode cX4_unlike 15 = .ok (.iload_n 2, 1) := by decide +kernel
theorem dX4_unlike_16 : decode cX4_unlike 16 = .ok (.invokevirtual 137, 3) := by decide +kernel
theorem dX4_unlike_19 : decode cX4_unlike 19 = .ok (.ireturn, 1) := by decide +kernel
set_option maxRecDepth 20000 in
theorem ggX4_next_X4_isAsked : GoodIn wsX4_next wsX4_isAsked := goodIn_r _ [6] (by decide +kernel) (by decide +kernel)
set_option maxRecDepth 20000 in
theorem gX4_next_X4_isAsked : GoodIn wsX4_next (va_wsS RX4 131 yX4_isAsked wsX4_isAsked) := goodIn_app (goodIn_of _ (by decide +kernel)) ggX4_next_X4_isAsked
set_option maxRecDepth 20000 in
theorem ggX4_next_X0_placeOf : GoodIn wsX4_next wsX0_placeOf := goodIn_r _ [11, 12, 13, 14, 15, 10, 16, 17, 18, 19, 20, 21, 58, 59, 60, 61] (by decide +kernel) (by decide +kernel)
set_option maxRecDepth 20000 in
theorem gX4_next_X0_placeOf : GoodIn wsX4_next (wsV RX4 101 RX0 yX0_placeOf wsX0_placeOf) := goodIn_app (goodIn_of _ (by decide +kernel)) ggX4_next_X0_placeOf
set_option maxRecDepth 20000 in
theorem ggX4_next_X0_oftenOf : GoodIn wsX4_next wsX0_oftenOf := goodIn_r _ [25, 26, 8, 9, 10, 11, 12, 13, 14, 15, 16, 17, 18, 19, 20, 21, 27, 28, 29, 30, 31, 58, 59, 60, 61] (by decide +kernel) (by decide +kernel)
set_option maxRecDepth 20000 in
theorem gX4_next_X0_oftenOf : GoodIn wsX4_next (wsV RX4 63 RX0 yX0_oftenOf wsX0_oftenOf) := goodIn_app (goodIn_of _ (by decide +kernel)) ggX4_next_X0_oftenOf
set_option maxRecDepth 20000 in
theorem ggX4_next_X4_told : GoodIn wsX4_next wsX4_told := goodIn_r _ [35, 1, 36, 37, 38, 10, 39, 12, 40, 14, 15, 16, 17, 18, 19, 20, 21, 41, 42, 43, 44, 45, 46, 47, 48, 49, 50, 51, 52, 53, 54, 55, 56, 57, 58, 59, 60, 61] (by decide +kernel) (by decide +kernel)
set_option maxRecDepth 20000 in
theorem gX4_next_X4_told : GoodIn wsX4_next (wsV RX4 137 RX4 yX4_told wsX4_told) := goodIn_app (goodIn_of _ (by decide +kernel)) ggX4_next_X4_told
theorem dX4_next_0 : decode cX4_next 0 = .ok (.iload_n 1, 1) := by decide +kernel
theorem dX4_next_1 : decode cX4_next 1 = .ok (.invokestatic 131, 3) := by decide +kernel
theorem dX4_next_4 : decode cX4_next 4 = .ok (.ifCond .ne 5, 3) := by decide +kernel
theorem dX4_next_7 : decode cX4_next 7 = .ok (.iconst (-1), 1) := by decide +kernel
theorem dX4_next_8 : decode cX4_next 8 = .ok (.ireturn, 1) := by decide +kernel
theorem dX4_next_9 : decode cX4_next 9 = .ok (.aload_n 0, 1) := by decide +kernel
theorem dX4_next_10 : decode cX4_next 10 = .ok (.getfield 10, 3) := by decide +kernel
theorem dX4_next_13 : decode cX4_next 13 = .ok (.aload_n 0, 1) := by decide +kernel
theorem dX4_next_14 : decode cX4_next 14 = .ok (.getfield 36, 3) := by decide +kernel
theorem dX4_next_17 : decode cX4_next 17 = .ok (.invokevirtual 101, 3) := by decide +kernel
theorem dX4_next_20 : decode cX4_next 20 = .ok (.istore_n 2, 1) := by decide +kernel
theorem dX4_next_21 : decode cX4_next 21 = .ok (.aload_n 0, 1) := by decide +kernel
theorem dX4_next_22 : decode cX4_next 22 = .ok (.aload_n 0, 1) := by decide +kernel
theorem dX4_next_23 : decode cX4_next 23 = .ok (.getfield 10, 3) := by decide +kernel
theorem dX4_next_26 : decode cX4_next 26 = .ok (.aload_n 0, 1) := by decide +kernel
theorem dX4_next_27 : decode cX4_next 27 = .ok (.getfield 36, 3) := by decide +kernel
theorem dX4_next_30 : decode cX4_next 30 = .ok (.invokevirtual 63, 3) := by decide +kernel
theorem dX4_next_33 : decode cX4_next 33 = .ok (.ifCond .ne 7, 3) := by decide +kernel
theorem dX4_next_36 : decode cX4_next 36 = .ok (.iload_n 2, 1) := by decide +kernel
theorem dX4_next_37 : decode cX4_next 37 = .ok (.goto 6, 3) := by decide +kernel
theorem dX4_next_40 : decode cX4_next 40 = .ok (.iload_n 2, 1) := by decide +kernel
theorem dX4_next_41 : decode cX4_next 41 = .ok (.iconst 1, 1) := by decide +kernel
theorem dX4_next_42 : decode cX4_next 42 = .ok (.iadd, 1) := by decide +kernel
theorem dX4_next_43 : decode cX4_next 43 = .ok (.iload_n 1, 1) := by decide +kernel
theorem dX4_next_44 : decode cX4_next 44 = .ok (.invokevirtual 137, 3) := by decide +kernel
theorem dX4_next_47 : decode cX4_next 47 = .ok (.ireturn, 1) := by decide +kernel
set_option maxRecDepth 20000 in
theorem ggX4_top_X4_isAsked : GoodIn wsX4_top wsX4_isAsked := goodIn_r _ [6] (by decide +kernel) (by decide +kernel)
set_option maxRecDepth 20000 in
theorem gX4_top_X4_isAsked : GoodIn wsX4_top (va_wsS RX4 131 yX4_isAsked wsX4_isAsked) := goodIn_app (goodIn_of _ (by decide +kernel)) ggX4_top_X4_isAsked
set_option maxRecDepth 20000 in
theorem ggX4_top_X0_frequent : GoodIn wsX4_top wsX0_frequent := goodIn_r _ [11, 12, 13, 14, 15, 10, 16, 17, 18, 19, 20, 21, 22, 23, 24, 25, 26, 27, 28, 29, 30, 31, 32, 33, 34, 35, 36, 37, 38, 39, 40, 41, 42, 43, 44, 45, 46, 64, 65, 66, 67] (by decide +kernel) (by decide +kernel)
set_option maxRecDepth 20000 in
theorem gX4_top_X0_frequent : GoodIn wsX4_top (wsV RX4 140 RX0 yX0_frequent wsX0_frequent) := goodIn_app (goodIn_of _ (by decide +kernel)) ggX4_top_X0_frequent
set_option maxRecDepth 20000 in
theorem ggX4_top_X4_told : GoodIn wsX4_top wsX4_told := goodIn_r _ [50, 1, 51, 52, 53, 10, 54, 12, 55, 14, 15, 16, 17, 18, 19, 20, 21, 56, 36, 24, 37, 29, 30, 31, 32, 33, 34, 57, 58, 59, 60, 61, 62, 63, 64, 65, 66, 67] (by decide +kernel) (by decide +kernel)
set_option maxRecDepth 20000 in
theorem gX4_top_X4_told : GoodIn wsX4_top (wsV RX4 137 RX4 yX4_told wsX4_told) := goodIn_app (goodIn_of _ (by decide +kernel)) ggX4_top_X4_told
theorem dX4_top_0 : decode cX4_top 0 = .ok (.iload_n 1, 1) := by decide +kernel
theorem dX4_top_1 : decode cX4_top 1 = .ok (.ifCond .lt 10, 3) := by decide +kernel
theorem dX4_top_4 : decode cX4_top 4 = .ok (.iload_n 2, 1) := by decide +kernel
theorem dX4_top_5 : decode cX4_top 5 = .ok (.invokestatic 131, 3) := by decide +kernel
theorem dX4_top_8 : decode cX4_top 8 = .ok (.ifCond .ne 5, 3) := by decide +kernel
theorem dX4_top_11 : decode cX4_top 11 = .ok (.iconst (-1), 1) := by decide +kernel
theorem dX4_top_12 : decode cX4_top 12 = .ok (.ireturn, 1) := by decide +kernel
theorem dX4_top_13 : decode cX4_top 13 = .ok (.aload_n 0, 1) := by decide +kernel
theorem dX4_top_14 : decode cX4_top 14 = .ok (.aload_n 0, 1) := by decide +kernel
theorem dX4_top_15 : decode cX4_top 15 = .ok (.getfield 10, 3) := by decide +kernel
theorem dX4_top_18 : decode cX4_top 18 = .ok (.aload_n 0, 1) := by decide +kernel
theorem dX4_top_19 : decode cX4_top 19 = .ok (.getfield 36, 3) := by decide +kernel
theorem dX4_top_22 : decode cX4_top 22 = .ok (.iload_n 1, 1) := by decide +kernel
theorem dX4_top_23 : decode cX4_top 23 = .ok (.invokevirtual 140, 3) := by decide +kernel
theorem dX4_top_26 : decode cX4_top 26 = .ok (.iload_n 2, 1) := by decide +kernel
theorem dX4_top_27 : decode cX4_top 27 = .ok (.invokevirtual 137, 3) := by decide +kernel
theorem dX4_top_30 : decode cX4_top 30 = .ok (.ireturn, 1) := by decide +kernel
set_option maxRecDepth 20000 in
theorem ggX4_sees_X3_isLetter : GoodIn wsX4_sees wsX3_isLetter := goodIn_r _ [5] (by decide +kernel) (by decide +kernel)
set_option maxRecDepth 20000 in
theorem gX4_sees_X3_isLetter : GoodIn wsX4_sees (va_wsS RX4 44 yX3_isLetter wsX3_isLetter) := goodIn_app (goodIn_of _ (by decide +kernel)) ggX4_sees_X3_isLetter
set_option maxRecDepth 20000 in
theorem ggX4_sees_X4_isHalf : GoodIn wsX4_sees wsX4_isHalf := goodIn_r _ [9] (by decide +kernel) (by decide +kernel)
set_option maxRecDepth 20000 in
theorem gX4_sees_X4_isHalf : GoodIn wsX4_sees (va_wsS RX4 111 yX4_isHalf wsX4_isHalf) := goodIn_app (goodIn_of _ (by decide +kernel)) ggX4_sees_X4_isHalf
set_option maxRecDepth 20000 in
theorem ggX4_sees_X2_size : GoodIn wsX4_sees wsX2_size := goodIn_r _ [14, 15, 29, 30, 31, 32] (by decide +kernel) (by decide +kernel)
set_option maxRecDepth 20000 in
theorem gX4_sees_X2_size : GoodIn wsX4_sees (wsV RX4 143 RX2 yX2_size wsX2_size) := goodIn_app (goodIn_of _ (by decide +kernel)) ggX4_sees_X2_size
set_option maxRecDepth 20000 in
theorem ggX4_sees_X2_push : GoodIn wsX4_sees wsX2_push := goodIn_r _ [19, 15, 20, 21, 22, 29, 30, 31, 32] (by decide +kernel) (by decide +kernel)
set_option maxRecDepth 20000 in
theorem gX4_sees_X2_push : GoodIn wsX4_sees (wsV RX4 144 RX2 yX2_push wsX2_push) := goodIn_app (goodIn_of _ (by decide +kernel)) ggX4_sees_X2_push
theorem dX4_sees_0 : decode cX4_sees 0 = .ok (.iload_n 1, 1) := by decide +kernel
theorem dX4_sees_1 : decode cX4_sees 1 = .ok (.ifCond .lt 23, 3) := by decide +kernel
theorem dX4_sees_4 : decode cX4_sees 4 = .ok (.iload_n 1, 1) := by decide +kernel
theorem dX4_sees_5 : decode cX4_sees 5 = .ok (.bipush 7, 2) := by decide +kernel
theorem dX4_sees_7 : decode cX4_sees 7 = .ok (.if_icmp .ge 17, 3) := by decide +kernel
theorem dX4_sees_10 : decode cX4_sees 10 = .ok (.iload_n 2, 1) := by decide +kernel
theorem dX4_sees_11 : decode cX4_sees 11 = .ok (.invokestatic 44, 3) := by decide +kernel
theorem dX4_sees_14 : decode cX4_sees 14 = .ok (.ifCond .eq 10, 3) := by decide +kernel
theorem dX4_sees_17 : decode cX4_sees 17 = .ok (.iload_n 3, 1) := by decide +kernel
theorem dX4_sees_18 : decode cX4_sees 18 = .ok (.invokestatic 111, 3) := by decide +kernel
theorem dX4_sees_21 : decode cX4_sees 21 = .ok (.ifCond .ne 5, 3) := by decide +kernel
theorem dX4_sees_24 : decode cX4_sees 24 = .ok (.iconst (-1), 1) := by decide +kernel
theorem dX4_sees_25 : decode cX4_sees 25 = .ok (.ireturn, 1) := by decide +kernel
theorem dX4_sees_26 : decode cX4_sees 26 = .ok (.aload_n 0, 1) := by decide +kernel
theorem dX4_sees_27 : decode cX4_sees 27 = .ok (.getfield 26, 3) := by decide +kernel
theorem dX4_sees_30 : decode cX4_sees 30 = .ok (.invokevirtual 143, 3) := by decide +kernel
theorem dX4_sees_33 : decode cX4_sees 33 = .ok (.bipush 8, 2) := by decide +kernel
theorem dX4_sees_35 : decode cX4_sees 35 = .ok (.if_icmp .lt 6, 3) := by decide +kernel
theorem dX4_sees_38 : decode cX4_sees 38 = .ok (.bipush (-3), 2) := by decide +kernel
theorem dX4_sees_40 : decode cX4_sees 40 = .ok (.ireturn, 1) := by decide +kernel
theorem dX4_sees_41 : decode cX4_sees 41 = .ok (.aload_n 0, 1) := by decide +kernel
theorem dX4_sees_42 : decode cX4_sees 42 = .ok (.getfield 26, 3) := by decide +kernel
theorem dX4_sees_45 : decode cX4_sees 45 = .ok (.iload_n 1, 1) := by decide +kernel
theorem dX4_sees_46 : decode cX4_sees 46 = .ok (.iload_n 2, 1) := by decide +kernel
theorem dX4_sees_47 : decode cX4_sees 47 = .ok (.iload_n 3, 1) := by decide +kernel
theorem dX4_sees_48 : decode cX4_sees 48 = .ok (.iconst 1, 1) := by decide +kernel
theorem dX4_sees_49 : decode cX4_sees 49 = .ok (.if_icmp .ne 7, 3) := by decide +kernel
theorem dX4_sees_52 : decode cX4_sees 52 = .ok (.iconst 1, 1) := by decide +kernel
theorem dX4_sees_53 : decode cX4_sees 53 = .ok (.goto 4, 3) := by decide +kernel
theorem dX4_sees_56 : decode cX4_sees 56 = .ok (.iconst 0, 1) := by decide +kernel
theorem dX4_sees_57 : decode cX4_sees 57 = .ok (.invokevirtual 144, 3) := by decide +kernel
theorem dX4_sees_60 : decode cX4_sees 60 = .ok (.aload_n 0, 1) := by decide +kernel
theorem dX4_sees_61 : decode cX4_sees 61 = .ok (.getfield 26, 3) := by decide +kernel
theorem dX4_sees_64 : decode cX4_sees 64 = .ok (.invokevirtual 143, 3) := by decide +kernel
theorem dX4_sees_67 : decode cX4_sees 67 = .ok (.ireturn, 1) := by decide +kernel
set_option maxRecDepth 20000 in
theorem ggX4_forget_X2_size : GoodIn wsX4_forget wsX2_size := goodIn_r _ [6, 7, 18, 19, 20, 21] (by decide +kernel) (by decide +kernel)
set_option maxRecDepth 20000 in
theorem gX4_forget_X2_size : GoodIn wsX4_forget (wsV RX4 143 RX2 yX2_size wsX2_size) := goodIn_app (goodIn_of _ (by decide +kernel)) ggX4_forget_X2_size
set_option maxRecDepth 20000 in
theorem ggX4_forget_X2_empty : GoodIn wsX4_forget wsX2_empty := goodIn_r _ [11, 7, 18, 19, 20, 21] (by decide +kernel) (by decide +kernel)
set_option maxRecDepth 20000 in
theorem gX4_forget_X2_empty : GoodIn wsX4_forget (wsV RX4 147 RX2 yX2_empty wsX2_empty) := goodIn_app (goodIn_of _ (by decide +kernel)) ggX4_forget_X2_empty
theorem dX4_forget_0 : decode cX4_forget 0 = .ok (.aload_n 0, 1) := by decide +kernel
theorem dX4_forget_1 : decode cX4_forget 1 = .ok (.getfield 26, 3) := by decide +kernel
theorem dX4_forget_4 : decode cX4_forget 4 = .ok (.invokevirtual 143, 3) := by decide +kernel
theorem dX4_forget_7 : decode cX4_forget 7 = .ok (.istore_n 1, 1) := by decide +kernel
theorem dX4_forget_8 : decode cX4_forget 8 = .ok (.aload_n 0, 1) := by decide +kernel
theorem dX4_forget_9 : decode cX4_forget 9 = .ok (.getfield 26, 3) := by decide +kernel
theorem dX4_forget_12 : decode cX4_forget 12 = .ok (.invokevirtual 147, 3) := by decide +kernel
theorem dX4_forget_15 : decode cX4_forget 15 = .ok (.iload_n 1, 1) := by decide +kernel
theorem dX4_forget_16 : decode cX4_forget 16 = .ok (.ireturn, 1) := by decide +kernel
set_option maxRecDepth 20000 in
theorem ggX4_fit_X4_isHalf : GoodIn wsX4_fit wsX4_isHalf := goodIn_r _ [6] (by decide +kernel) (by decide +kernel)
set_option maxRecDepth 20000 in
theorem gX4_fit_X4_isHalf : GoodIn wsX4_fit (va_wsS RX4 111 yX4_isHalf wsX4_isHalf) := goodIn_app (goodIn_of _ (by decide +kernel)) ggX4_fit_X4_isHalf
set_option maxRecDepth 20000 in
theorem ggX4_fit_X0_size : GoodIn wsX4_fit wsX0_size := goodIn_r _ [11, 12, 44, 45, 46, 47] (by decide +kernel) (by decide +kernel)
set_option maxRecDepth 20000 in
theorem gX4_fit_X0_size : GoodIn wsX4_fit (wsV RX4 56 RX0 yX0_size wsX0_size) := goodIn_app (goodIn_of _ (by decide +kernel)) ggX4_fit_X0_size
set_option maxRecDepth 20000 in
theorem ggX4_fit_X0_wordAt : GoodIn wsX4_fit wsX0_wordAt := goodIn_r _ [16, 17, 18, 19, 20, 10, 21, 12, 44, 45, 46, 47] (by decide +kernel) (by decide +kernel)
set_option maxRecDepth 20000 in
theorem gX4_fit_X0_wordAt : GoodIn wsX4_fit (wsV RX4 148 RX0 yX0_wordAt wsX0_wordAt) := goodIn_app (goodIn_of _ (by decide +kernel)) ggX4_fit_X0_wordAt
set_option maxRecDepth 20000 in
theorem ggX4_fit_X2_allow : GoodIn wsX4_fit wsX2_allow := goodIn_r _ [26, 27, 28, 29, 30, 31, 32, 33, 34, 35, 36, 37, 48, 49, 50, 51] (by decide +kernel) (by decide +kernel)
set_option maxRecDepth 20000 in
theorem gX4_fit_X2_allow : GoodIn wsX4_fit (wsV RX4 152 RX2 yX2_allow wsX2_allow) := goodIn_app (goodIn_of _ (by decide +kernel)) ggX4_fit_X2_allow
theorem dX4_fit_0 : decode cX4_fit 0 = .ok (.iload_n 1, 1) := by decide +kernel
theorem dX4_fit_1 : decode cX4_fit 1 = .ok (.invokestatic 111, 3) := by decide +kernel
theorem dX4_fit_4 : decode cX4_fit 4 = .ok (.ifCond .ne 5, 3) := by decide +kernel
theorem dX4_fit_7 : decode cX4_fit 7 = .ok (.iconst (-1), 1) := by decide +kernel
theorem dX4_fit_8 : decode cX4_fit 8 = .ok (.ireturn, 1) := by decide +kernel
theorem dX4_fit_9 : decode cX4_fit 9 = .ok (.iconst 0, 1) := by decide +kernel
theorem dX4_fit_10 : decode cX4_fit 10 = .ok (.istore_n 2, 1) := by decide +kernel
theorem dX4_fit_11 : decode cX4_fit 11 = .ok (.iconst 0, 1) := by decide +kernel
theorem dX4_fit_12 : decode cX4_fit 12 = .ok (.istore_n 3, 1) := by decide +kernel
theorem dX4_fit_13 : decode cX4_fit 13 = .ok (.iload_n 3, 1) := by decide +kernel
theorem dX4_fit_14 : decode cX4_fit 14 = .ok (.aload_n 0, 1) := by decide +kernel
theorem dX4_fit_15 : decode cX4_fit 15 = .ok (.getfield 10, 3) := by decide +kernel
theorem dX4_fit_18 : decode cX4_fit 18 = .ok (.invokevirtual 56, 3) := by decide +kernel
theorem dX4_fit_21 : decode cX4_fit 21 = .ok (.if_icmp .ge 37, 3) := by decide +kernel
theorem dX4_fit_24 : decode cX4_fit 24 = .ok (.aload_n 0, 1) := by decide +kernel
theorem dX4_fit_25 : decode cX4_fit 25 = .ok (.getfield 26, 3) := by decide +kernel
theorem dX4_fit_28 : decode cX4_fit 28 = .ok (.aload_n 0, 1) := by decide +kernel
theorem dX4_fit_29 : decode cX4_fit 29 = .ok (.getfield 10, 3) := by decide +kernel
theorem dX4_fit_32 : decode cX4_fit 32 = .ok (.iload_n 3, 1) := by decide +kernel
theorem dX4_fit_33 : decode cX4_fit 33 = .ok (.invokevirtual 148, 3) := by decide +kernel
theorem dX4_fit_36 : decode cX4_fit 36 = .ok (.invokevirtual 152, 3) := by decide +kernel
theorem dX4_fit_39 : decode cX4_fit 39 = .ok (.ifCond .eq 13, 3) := by decide +kernel
theorem dX4_fit_42 : decode cX4_fit 42 = .ok (.iload_n 1, 1) := by decide +kernel
theorem dX4_fit_43 : decode cX4_fit 43 = .ok (.iconst 1, 1) := by decide +kernel
theorem dX4_fit_44 : decode cX4_fit 44 = .ok (.if_icmp .ne 5, 3) := by decide +kernel
theorem dX4_fit_47 : decode cX4_fit 47 = .ok (.iload_n 3, 1) := by decide +kernel
theorem dX4_fit_48 : decode cX4_fit 48 = .ok (.ireturn, 1) := by decide +kernel
theorem dX4_fit_49 : decode cX4_fit 49 = .ok (.iinc 2 1, 3) := by decide +kernel
theorem dX4_fit_52 : decode cX4_fit 52 = .ok (.iinc 3 1, 3) := by decide +kernel
theorem dX4_fit_55 : decode cX4_fit 55 = .ok (.goto (-42), 3) := by decide +kernel
theorem dX4_fit_58 : decode cX4_fit 58 = .ok (.iload_n 1, 1) := by decide +kernel
theorem dX4_fit_59 : decode cX4_fit 59 = .ok (.iconst 1, 1) := by decide +kernel
theorem dX4_fit_60 : decode cX4_fit 60 = .ok (.if_icmp .ne 8, 3) := by decide +kernel
theorem dX4_fit_63 : decode cX4_fit 63 = .ok (.bipush (-9), 2) := by decide +kernel
theorem dX4_fit_65 : decode cX4_fit 65 = .ok (.goto 4, 3) := by decide +kernel
theorem dX4_fit_68 : decode cX4_fit 68 = .ok (.iload_n 2, 1) := by decide +kernel
theorem dX4_fit_69 : decode cX4_fit 69 = .ok (.ireturn, 1) := by decide +kernel
set_option maxRecDepth 20000 in
theorem ggX4_ask_X4_tallyFitting : GoodIn wsX4_ask wsX4_tallyFitting := goodIn_r _ [10, 1, 11, 12, 13, 14, 15, 16, 17, 18, 19, 20, 21, 22, 23, 24, 25, 26, 27, 28, 29, 30, 31, 32, 33, 34, 35, 36, 37, 38, 39, 40, 41, 42, 43, 44, 45, 46, 47, 48, 49, 50, 9, 51, 52, 53, 54, 55, 56, 57, 58, 59, 60, 61, 62, 63, 64, 65, 66, 67, 68, 69] (by decide +kernel) (by decide +kernel)
set_option maxRecDepth 20000 in
theorem gX4_ask_X4_tallyFitting : GoodIn wsX4_ask (wsV RX4 156 RX4 yX4_tallyFitting wsX4_tallyFitting) := goodIn_app (goodIn_of _ (by decide +kernel)) ggX4_ask_X4_tallyFitting
theorem dX4_ask_0 : decode cX4_ask 0 = .ok (.aload_n 0, 1) := by decide +kernel
theorem dX4_ask_1 : decode cX4_ask 1 = .ok (.invokevirtual 156, 3) := by decide +kernel
theorem dX4_ask_4 : decode cX4_ask 4 = .ok (.istore_n 1, 1) := by decide +kernel
theorem dX4_ask_5 : decode cX4_ask 5 = .ok (.iload_n 1, 1) := by decide +kernel
theorem dX4_ask_6 : decode cX4_ask 6 = .ok (.iconst 2, 1) := by decide +kernel
theorem dX4_ask_7 : decode cX4_ask 7 = .ok (.if_icmp .ge 6, 3) := by decide +kernel
theorem dX4_ask_10 : decode cX4_ask 10 = .ok (.bipush (-9), 2) := by decide +kernel
theorem dX4_ask_12 : decode cX4_ask 12 = .ok (.ireturn, 1) := by decide +kernel
theorem dX4_ask_13 : decode cX4_ask 13 = .ok (.iload_n 1, 1) := by decide +kernel
theorem dX4_ask_14 : decode cX4_ask 14 = .ok (.iconst 1, 1) := by decide +kernel
theorem dX4_ask_15 : decode cX4_ask 15 = .ok (.iadd, 1) := by decide +kernel
theorem dX4_ask_16 : decode cX4_ask 16 = .ok (.istore_n 2, 1) := by decide +kernel
theorem dX4_ask_17 : decode cX4_ask 17 = .ok (.bipush (-9), 2) := by decide +kernel
theorem dX4_ask_19 : decode cX4_ask 19 = .ok (.istore_n 3, 1) := by decide +kernel
theorem dX4_ask_20 : decode cX4_ask 20 = .ok (.iconst 0, 1) := by decide +kernel
theorem dX4_ask_21 : decode cX4_ask 21 = .ok (.istore 4, 2) := by decide +kernel
theorem dX4_ask_23 : decode cX4_ask 23 = .ok (.iload 4, 2) := by decide +kernel
theorem dX4_ask_25 : decode cX4_ask 25 = .ok (.sipush 182, 3) := by decide +kernel
theorem dX4_ask_28 : decode cX4_ask 28 = .ok (.if_icmp .ge 54, 3) := by decide +kernel
theorem dX4_ask_31 : decode cX4_ask 31 = .ok (.aload_n 0, 1) := by decide +kernel
theorem dX4_ask_32 : decode cX4_ask 32 = .ok (.getfield 30, 3) := by decide +kernel
theorem dX4_ask_35 : decode cX4_ask 35 = .ok (.iload 4, 2) := by decide +kernel
theorem dX4_ask_37 : decode cX4_ask 37 = .ok (.iaload, 1) := by decide +kernel
theorem dX4_ask_38 : decode cX4_ask 38 = .ok (.iload_n 1, 1) := by decide +kernel
theorem dX4_ask_39 : decode cX4_ask 39 = .ok (.aload_n 0, 1) := by decide +kernel
theorem dX4_ask_40 : decode cX4_ask 40 = .ok (.getfield 30, 3) := by decide +kernel
theorem dX4_ask_43 : decode cX4_ask 43 = .ok (.iload 4, 2) := by decide +kernel
theorem dX4_ask_45 : decode cX4_ask 45 = .ok (.iaload, 1) := by decide +kernel
theorem dX4_ask_46 : decode cX4_ask 46 = .ok (.isub, 1) := by decide +kernel
theorem dX4_ask_47 : decode cX4_ask 47 = .ok (.invokestatic 159, 3) := by decide +kernel
theorem dX4_ask_50 : decode cX4_ask 50 = .ok (.istore 5, 2) := by decide +kernel
theorem dX4_ask_52 : decode cX4_ask 52 = .ok (.iload 5, 2) := by decide +kernel
theorem dX4_ask_54 : decode cX4_ask 54 = .ok (.iload_n 2, 1) := by decide +kernel
theorem dX4_ask_55 : decode cX4_ask 55 = .ok (.if_icmp .ge 21, 3) := by decide +kernel
theorem dX4_ask_58 : decode cX4_ask 58 = .ok (.iload 5, 2) := by decide +kernel
theorem dX4_ask_60 : decode cX4_ask 60 = .ok (.istore_n 2, 1) := by decide +kernel
theorem dX4_ask_61 : decode cX4_ask 61 = .ok (.bipush 32, 2) := by decide +kernel
theorem dX4_ask_63 : decode cX4_ask 63 = .ok (.iload 4, 2) := by decide +kernel
theorem dX4_ask_65 : decode cX4_ask 65 = .ok (.bipush 26, 2) := by decide +kernel
theorem dX4_ask_67 : decode cX4_ask 67 = .ok (.idiv, 1) := by decide +kernel
theorem dX4_ask_68 : decode cX4_ask 68 = .ok (.imul, 1) := by decide +kernel
theorem dX4_ask_69 : decode cX4_ask 69 = .ok (.iload 4, 2) := by decide +kernel
theorem dX4_ask_71 : decode cX4_ask 71 = .ok (.bipush 26, 2) := by decide +kernel
theorem dX4_ask_73 : decode cX4_ask 73 = .ok (.irem, 1) := by decide +kernel
theorem dX4_ask_74 : decode cX4_ask 74 = .ok (.iadd, 1) := by decide +kernel
theorem dX4_ask_75 : decode cX4_ask 75 = .ok (.istore_n 3, 1) := by decide +kernel
theorem dX4_ask_76 : decode cX4_ask 76 = .ok (.iinc 4 1, 3) := by decide +kernel
theorem dX4_ask_79 : decode cX4_ask 79 = .ok (.goto (-56), 3) := by decide +kernel
theorem dX4_ask_82 : decode cX4_ask 82 = .ok (.iload_n 3, 1) := by decide +kernel
theorem dX4_ask_83 : decode cX4_ask 83 = .ok (.ireturn, 1) := by decide +kernel
set_option maxRecDepth 20000 in
theorem ggX4_count_X0_size : GoodIn wsX4_count wsX0_size := goodIn_r _ [9, 10, 104, 105, 106, 107] (by decide +kernel) (by decide +kernel)
set_option maxRecDepth 20000 in
theorem gX4_count_X0_size : GoodIn wsX4_count (wsV RX4 56 RX0 yX0_size wsX0_size) := goodIn_app (goodIn_of _ (by decide +kernel)) ggX4_count_X0_size
set_option maxRecDepth 20000 in
theorem ggX4_count_X0_oftenBelow : GoodIn wsX4_count wsX0_oftenBelow := goodIn_r _ [14, 10, 15, 16, 17, 8, 18, 19, 20, 21, 22, 23, 104, 105, 106, 107] (by decide +kernel) (by decide +kernel)
set_option maxRecDepth 20000 in
theorem gX4_count_X0_oftenBelow : GoodIn wsX4_count (wsV RX4 104 RX0 yX0_oftenBelow wsX0_oftenBelow) := goodIn_app (goodIn_of _ (by decide +kernel)) ggX4_count_X0_oftenBelow
set_option maxRecDepth 20000 in
theorem ggX4_count_X0_nodes : GoodIn wsX4_count wsX0_nodes := goodIn_r _ [27, 10, 28, 29, 30, 31, 32, 33, 34, 8, 35, 36, 20, 21, 22, 23, 37, 38, 39, 40, 41, 42, 43, 44, 45, 46, 47, 48, 49, 50, 51, 52, 53, 54, 55, 104, 105, 106, 107] (by decide +kernel) (by decide +kernel)
set_option maxRecDepth 20000 in
theorem gX4_count_X0_nodes : GoodIn wsX4_count (wsV RX4 164 RX0 yX0_nodes wsX0_nodes) := goodIn_app (goodIn_of _ (by decide +kernel)) ggX4_count_X0_nodes
set_option maxRecDepth 20000 in
theorem ggX4_count_X0_containers : GoodIn wsX4_count wsX0_containers := goodIn_r _ [59, 10, 60, 61, 62, 8, 63, 64, 65, 66, 67, 32, 33, 34, 35, 36, 20, 21, 22, 23, 41, 42, 43, 44, 45, 68, 69, 48, 70, 50, 51, 52, 53, 54, 55, 37, 38, 39, 40, 46, 47, 49, 104, 105, 106, 107] (by decide +kernel) (by decide +kernel)
set_option maxRecDepth 20000 in
theorem gX4_count_X0_containers : GoodIn wsX4_count (wsV RX4 167 RX0 yX0_containers wsX0_containers) := goodIn_app (goodIn_of _ (by decide +kernel)) ggX4_count_X0_containers
set_option maxRecDepth 20000 in
theorem ggX4_count_X0_fullest : GoodIn wsX4_count wsX0_fullest := goodIn_r _ [74, 10, 28, 29, 30, 31, 64, 65, 66, 8, 67, 32, 33, 34, 35, 36, 20, 21, 22, 23, 41, 42, 43, 44, 45, 68, 69, 48, 70, 50, 51, 52, 53, 54, 55, 60, 61, 62, 63, 37, 38, 39, 40, 46, 47, 49, 104, 105, 106, 107] (by decide +kernel) (by decide +kernel)
set_option maxRecDepth 20000 in
theorem gX4_count_X0_fullest : GoodIn wsX4_count (wsV RX4 170 RX0 yX0_fullest wsX0_fullest) := goodIn_app (goodIn_of _ (by decide +kernel)) ggX4_count_X0_fullest
set_option maxRecDepth 20000 in
theorem ggX4_count_X0_deepest : GoodIn wsX4_count wsX0_deepest := goodIn_r _ [78, 10, 28, 29, 30, 31, 32, 33, 34, 8, 35, 36, 20, 21, 22, 23, 104, 105, 106, 107] (by decide +kernel) (by decide +kernel)
set_option maxRecDepth 20000 in
theorem gX4_count_X0_deepest : GoodIn wsX4_count (wsV RX4 173 RX0 yX0_deepest wsX0_deepest) := goodIn_app (goodIn_of _ (by decide +kernel)) ggX4_count_X0_deepest
set_option maxRecDepth 20000 in
theorem ggX4_count_X0_lettersKept : GoodIn wsX4_count wsX0_lettersKept := goodIn_r _ [82, 10, 64, 65, 66, 8, 67, 32, 33, 34, 35, 36, 20, 21, 22, 23, 41, 42, 43, 44, 45, 68, 69, 48, 70, 50, 51, 52, 53, 54, 55, 104, 105, 106, 107] (by decide +kernel) (by decide +kernel)
set_option maxRecDepth 20000 in
theorem gX4_count_X0_lettersKept : GoodIn wsX4_count (wsV RX4 176 RX0 yX0_lettersKept wsX0_lettersKept) := goodIn_app (goodIn_of _ (by decide +kernel)) ggX4_count_X0_lettersKept
set_option maxRecDepth 20000 in
theorem ggX4_count_X0_mostShared : GoodIn wsX4_count wsX0_mostShared := goodIn_r _ [86, 10, 28, 29, 30, 31, 37, 38, 39, 8, 40, 41, 42, 43, 44, 45, 20, 21, 22, 23, 46, 47, 48, 49, 50, 51, 52, 53, 54, 55, 104, 105, 106, 107] (by decide +kernel) (by decide +kernel)
set_option maxRecDepth 20000 in
theorem gX4_count_X0_mostShared : GoodIn wsX4_count (wsV RX4 179 RX0 yX0_mostShared wsX0_mostShared) := goodIn_app (goodIn_of _ (by decide +kernel)) ggX4_count_X0_mostShared
set_option maxRecDepth 20000 in
theorem ggX4_count_X0_pairsSharing : GoodIn wsX4_count wsX0_pairsSharing := goodIn_r _ [90, 10, 37, 38, 39, 8, 40, 41, 42, 43, 44, 45, 20, 21, 22, 23, 46, 47, 48, 49, 50, 51, 52, 53, 54, 55, 104, 105, 106, 107] (by decide +kernel) (by decide +kernel)
set_option maxRecDepth 20000 in
theorem gX4_count_X0_pairsSharing : GoodIn wsX4_count (wsV RX4 182 RX0 yX0_pairsSharing wsX0_pairsSharing) := goodIn_app (goodIn_of _ (by decide +kernel)) ggX4_count_X0_pairsSharing
set_option maxRecDepth 20000 in
theorem ggX4_count_X3_lengthOf : GoodIn wsX4_count wsX3_lengthOf := goodIn_r _ [70, 50, 51, 48, 52, 53, 54, 55] (by decide +kernel) (by decide +kernel)
set_option maxRecDepth 20000 in
theorem gX4_count_X3_lengthOf : GoodIn wsX4_count (va_wsS RX4 48 yX3_lengthOf wsX3_lengthOf) := goodIn_app (goodIn_of _ (by decide +kernel)) ggX4_count_X3_lengthOf
set_option maxRecDepth 20000 in
theorem ggX4_count_X1_size : GoodIn wsX4_count wsX1_size := goodIn_r _ [96, 97, 108, 109, 110, 111] (by decide +kernel) (by decide +kernel)
set_option maxRecDepth 20000 in
theorem gX4_count_X1_size : GoodIn wsX4_count (wsV RX4 87 RX1 yX1_size wsX1_size) := goodIn_app (goodIn_of _ (by decide +kernel)) ggX4_count_X1_size
theorem dX4_count_0 : decode cX4_count 0 = .ok (.iload_n 1, 1) := by decide +kernel
theorem dX4_count_1 : decode cX4_count 1 = .ok (.tableswitch 186 0 11 #[63, 71, 86, 94, 102, 110, 118, 126, 150, 165, 170, 178], 63) := by decide +kernel
theorem dX4_count_64 : decode cX4_count 64 = .ok (.aload_n 0, 1) := by decide +kernel
theorem dX4_count_65 : decode cX4_count 65 = .ok (.getfield 10, 3) := by decide +kernel
theorem dX4_count_68 : decode cX4_count 68 = .ok (.invokevirtual 56, 3) := by decide +kernel
theorem dX4_count_71 : decode cX4_count 71 = .ok (.ireturn, 1) := by decide +kernel
theorem dX4_count_72 : decode cX4_count 72 = .ok (.aload_n 0, 1) := by decide +kernel
theorem dX4_count_73 : decode cX4_count 73 = .ok (.getfield 10, 3) := by decide +kernel
theorem dX4_count_76 : decode cX4_count 76 = .ok (.aload_n 0, 1) := by decide +kernel
theorem dX4_count_77 : decode cX4_count 77 = .ok (.getfield 10, 3) := by decide +kernel
theorem dX4_count_80 : decode cX4_count 80 = .ok (.invokevirtual 56, 3) := by decide +kernel
theorem dX4_count_83 : decode cX4_count 83 = .ok (.invokevirtual 104, 3) := by decide +kernel
theorem dX4_count_86 : decode cX4_count 86 = .ok (.ireturn, 1) := by decide +kernel
theorem dX4_count_87 : decode cX4_count 87 = .ok (.aload_n 0, 1) := by decide +kernel
theorem dX4_count_88 : decode cX4_count 88 = .ok (.getfield 10, 3) := by decide +kernel
theorem dX4_count_91 : decode cX4_count 91 = .ok (.invokevirtual 164, 3) := by decide +kernel
theorem dX4_count_94 : decode cX4_count 94 = .ok (.ireturn, 1) := by decide +kernel
theorem dX4_count_95 : decode cX4_count 95 = .ok (.aload_n 0, 1) := by decide +kernel
theorem dX4_count_96 : decode cX4_count 96 = .ok (.getfield 10, 3) := by decide +kernel
theorem dX4_count_99 : decode cX4_count 99 = .ok (.invokevirtual 167, 3) := by decide +kernel
theorem dX4_count_102 : decode cX4_count 102 = .ok (.ireturn, 1) := by decide +kernel
theorem dX4_count_103 : decode cX4_count 103 = .ok (.aload_n 0, 1) := by decide +kernel
theorem dX4_count_104 : decode cX4_count 104 = .ok (.getfield 10, 3) := by decide +kernel
theorem dX4_count_107 : decode cX4_count 107 = .ok (.invokevirtual 170, 3) := by decide +kernel
theorem dX4_count_110 : decode cX4_count 110 = .ok (.ireturn, 1) := by decide +kernel
theorem dX4_count_111 : decode cX4_count 111 = .ok (.aload_n 0, 1) := by decide +kernel
theorem dX4_count_112 : decode cX4_count 112 = .ok (.getfield 10, 3) := by decide +kernel
theorem dX4_count_115 : decode cX4_count 115 = .ok (.invokevirtual 173, 3) := by decide +kernel
theorem dX4_count_118 : decode cX4_count 118 = .ok (.ireturn, 1) := by decide +kernel
theorem dX4_count_119 : decode cX4_count 119 = .ok (.aload_n 0, 1) := by decide +kernel
theorem dX4_count_120 : decode cX4_count 120 = .ok (.getfield 10, 3) := by decide +kernel
theorem dX4_count_123 : decode cX4_count 123 = .ok (.invokevirtual 176, 3) := by decide +kernel
theorem dX4_count_126 : decode cX4_count 126 = .ok (.ireturn, 1) := by decide +kernel
theorem dX4_count_127 : decode cX4_count 127 = .ok (.aload_n 0, 1) := by decide +kernel
theorem dX4_count_128 : decode cX4_count 128 = .ok (.getfield 10, 3) := by decide +kernel
theorem dX4_count_131 : decode cX4_count 131 = .ok (.invokevirtual 56, 3) := by decide +kernel
theorem dX4_count_134 : decode cX4_count 134 = .ok (.iconst 2, 1) := by decide +kernel
theorem dX4_count_135 : decode cX4_count 135 = .ok (.if_icmp .ge 8, 3) := by decide +kernel
theorem dX4_count_138 : decode cX4_count 138 = .ok (.bipush (-9), 2) := by decide +kernel
theorem dX4_count_140 : decode cX4_count 140 = .ok (.goto 10, 3) := by decide +kernel
theorem dX4_count_143 : decode cX4_count 143 = .ok (.aload_n 0, 1) := by decide +kernel
theorem dX4_count_144 : decode cX4_count 144 = .ok (.getfield 10, 3) := by decide +kernel
theorem dX4_count_147 : decode cX4_count 147 = .ok (.invokevirtual 179, 3) := by decide +kernel
theorem dX4_count_150 : decode cX4_count 150 = .ok (.ireturn, 1) := by decide +kernel
theorem dX4_count_151 : decode cX4_count 151 = .ok (.aload_n 0, 1) := by decide +kernel
theorem dX4_count_152 : decode cX4_count 152 = .ok (.getfield 10, 3) := by decide +kernel
theorem dX4_count_155 : decode cX4_count 155 = .ok (.aload_n 0, 1) := by decide +kernel
theorem dX4_count_156 : decode cX4_count 156 = .ok (.getfield 10, 3) := by decide +kernel
theorem dX4_count_159 : decode cX4_count 159 = .ok (.invokevirtual 179, 3) := by decide +kernel
theorem dX4_count_162 : decode cX4_count 162 = .ok (.invokevirtual 182, 3) := by decide +kernel
theorem dX4_count_165 : decode cX4_count 165 = .ok (.ireturn, 1) := by decide +kernel
theorem dX4_count_166 : decode cX4_count 166 = .ok (.aload_n 0, 1) := by decide +kernel
theorem dX4_count_167 : decode cX4_count 167 = .ok (.getfield 40, 3) := by decide +kernel
theorem dX4_count_170 : decode cX4_count 170 = .ok (.ireturn, 1) := by decide +kernel
theorem dX4_count_171 : decode cX4_count 171 = .ok (.aload_n 0, 1) := by decide +kernel
theorem dX4_count_172 : decode cX4_count 172 = .ok (.getfield 36, 3) := by decide +kernel
theorem dX4_count_175 : decode cX4_count 175 = .ok (.invokestatic 48, 3) := by decide +kernel
theorem dX4_count_178 : decode cX4_count 178 = .ok (.ireturn, 1) := by decide +kernel
theorem dX4_count_179 : decode cX4_count 179 = .ok (.aload_n 0, 1) := by decide +kernel
theorem dX4_count_180 : decode cX4_count 180 = .ok (.getfield 19, 3) := by decide +kernel
theorem dX4_count_183 : decode cX4_count 183 = .ok (.invokevirtual 87, 3) := by decide +kernel
theorem dX4_count_186 : decode cX4_count 186 = .ok (.ireturn, 1) := by decide +kernel
theorem dX4_count_187 : decode cX4_count 187 = .ok (.iconst (-1), 1) := by decide +kernel
theorem dX4_count_188 : decode cX4_count 188 = .ok (.ireturn, 1) := by decide +kernel
set_option maxRecDepth 20000 in
theorem ggX4_digest_X0_size : GoodIn wsX4_digest wsX0_size := goodIn_r _ [8, 9, 46, 47, 48, 49] (by decide +kernel) (by decide +kernel)
set_option maxRecDepth 20000 in
theorem gX4_digest_X0_size : GoodIn wsX4_digest (wsV RX4 56 RX0 yX0_size wsX0_size) := goodIn_app (goodIn_of _ (by decide +kernel)) ggX4_digest_X0_size
set_option maxRecDepth 20000 in
theorem ggX4_digest_X0_wordAt : GoodIn wsX4_digest wsX0_wordAt := goodIn_r _ [13, 14, 15, 16, 17, 7, 18, 9, 46, 47, 48, 49] (by decide +kernel) (by decide +kernel)
set_option maxRecDepth 20000 in
theorem gX4_digest_X0_wordAt : GoodIn wsX4_digest (wsV RX4 148 RX0 yX0_wordAt wsX0_wordAt) := goodIn_app (goodIn_of _ (by decide +kernel)) ggX4_digest_X0_wordAt
set_option maxRecDepth 20000 in
theorem ggX4_digest_X3_lengthOf : GoodIn wsX4_digest wsX3_lengthOf := goodIn_r _ [22, 23, 24, 21, 25, 26, 27, 28] (by decide +kernel) (by decide +kernel)
set_option maxRecDepth 20000 in
theorem gX4_digest_X3_lengthOf : GoodIn wsX4_digest (va_wsS RX4 48 yX3_lengthOf wsX3_lengthOf) := goodIn_app (goodIn_of _ (by decide +kernel)) ggX4_digest_X3_lengthOf
set_option maxRecDepth 20000 in
theorem ggX4_digest_X3_letterAt : GoodIn wsX4_digest wsX3_letterAt := goodIn_r _ [25, 26, 27, 21, 28] (by decide +kernel) (by decide +kernel)
set_option maxRecDepth 20000 in
theorem gX4_digest_X3_letterAt : GoodIn wsX4_digest (va_wsS RX4 189 yX3_letterAt wsX3_letterAt) := goodIn_app (goodIn_of _ (by decide +kernel)) ggX4_digest_X3_letterAt
set_option maxRecDepth 20000 in
theorem ggX4_digest_X0_oftenAt : GoodIn wsX4_digest wsX0_oftenAt := goodIn_r _ [33, 34, 15, 16, 17, 7, 18, 9, 46, 47, 48, 49] (by decide +kernel) (by decide +kernel)
set_option maxRecDepth 20000 in
theorem gX4_digest_X0_oftenAt : GoodIn wsX4_digest (wsV RX4 192 RX0 yX0_oftenAt wsX0_oftenAt) := goodIn_app (goodIn_of _ (by decide +kernel)) ggX4_digest_X0_oftenAt
set_option maxRecDepth 20000 in
theorem ggX4_digest_X0_depthAt : GoodIn wsX4_digest wsX0_depthAt := goodIn_r _ [38, 39, 15, 16, 17, 7, 18, 9, 46, 47, 48, 49] (by decide +kernel) (by decide +kernel)
set_option maxRecDepth 20000 in
theorem gX4_digest_X0_depthAt : GoodIn wsX4_digest (wsV RX4 195 RX0 yX0_depthAt wsX0_depthAt) := goodIn_app (goodIn_of _ (by decide +kernel)) ggX4_digest_X0_depthAt
theorem dX4_digest_0 : decode cX4_digest 0 = .ok (.ldc2_w 185, 3) := by decide +kernel
theorem dX4_digest_3 : decode cX4_digest 3 = .ok (.lstore_n 1, 1) := by decide +kernel
theorem dX4_digest_4 : decode cX4_digest 4 = .ok (.iconst 0, 1) := by decide +kernel
theorem dX4_digest_5 : decode cX4_digest 5 = .ok (.istore_n 3, 1) := by decide +kernel
theorem dX4_digest_6 : decode cX4_digest 6 = .ok (.iload_n 3, 1) := by decide +kernel
theorem dX4_digest_7 : decode cX4_digest 7 = .ok (.aload_n 0, 1) := by decide +kernel
theorem dX4_digest_8 : decode cX4_digest 8 = .ok (.getfield 10, 3) := by decide +kernel
theorem dX4_digest_11 : decode cX4_digest 11 = .ok (.invokevirtual 56, 3) := by decide +kernel
theorem dX4_digest_14 : decode cX4_digest 14 = .ok (.if_icmp .ge 89, 3) := by decide +kernel
theorem dX4_digest_17 : decode cX4_digest 17 = .ok (.aload_n 0, 1) := by decide +kernel
theorem dX4_digest_18 : decode cX4_digest 18 = .ok (.getfield 10, 3) := by decide +kernel
theorem dX4_digest_21 : decode cX4_digest 21 = .ok (.iload_n 3, 1) := by decide +kernel
theorem dX4_digest_22 : decode cX4_digest 22 = .ok (.invokevirtual 148, 3) := by decide +kernel
theorem dX4_digest_25 : decode cX4_digest 25 = .ok (.lstore 4, 2) := by decide +kernel
theorem dX4_digest_27 : decode cX4_digest 27 = .ok (.lload 4, 2) := by decide +kernel
theorem dX4_digest_29 : decode cX4_digest 29 = .ok (.invokestatic 48, 3) := by decide +kernel
theorem dX4_digest_32 : decode cX4_digest 32 = .ok (.istore 6, 2) := by decide +kernel
theorem dX4_digest_34 : decode cX4_digest 34 = .ok (.iconst 0, 1) := by decide +kernel
theorem dX4_digest_35 : decode cX4_digest 35 = .ok (.istore 7, 2) := by decide +kernel
theorem dX4_digest_37 : decode cX4_digest 37 = .ok (.iload 7, 2) := by decide +kernel
theorem dX4_digest_39 : decode cX4_digest 39 = .ok (.iload 6, 2) := by decide +kernel
theorem dX4_digest_41 : decode cX4_digest 41 = .ok (.if_icmp .ge 24, 3) := by decide +kernel
theorem dX4_digest_44 : decode cX4_digest 44 = .ok (.ldc2_w 187, 3) := by decide +kernel
theorem dX4_digest_47 : decode cX4_digest 47 = .ok (.lload_n 1, 1) := by decide +kernel
theorem dX4_digest_48 : decode cX4_digest 48 = .ok (.lmul, 1) := by decide +kernel
theorem dX4_digest_49 : decode cX4_digest 49 = .ok (.lload 4, 2) := by decide +kernel
theorem dX4_digest_51 : decode cX4_digest 51 = .ok (.iload 7, 2) := by decide +kernel
theorem dX4_digest_53 : decode cX4_digest 53 = .ok (.invokestatic 189, 3) := by decide +kernel
theorem dX4_digest_56 : decode cX4_digest 56 = .ok (.i2l, 1) := by decide +kernel
theorem dX4_digest_57 : decode cX4_digest 57 = .ok (.ladd, 1) := by decide +kernel
theorem dX4_digest_58 : decode cX4_digest 58 = .ok (.lstore_n 1, 1) := by decide +kernel
theorem dX4_digest_59 : decode cX4_digest 59 = .ok (.iinc 7 1, 3) := by decide +kernel
theorem dX4_digest_62 : decode cX4_digest 62 = .ok (.goto (-25), 3) := by decide +kernel
theorem dX4_digest_65 : decode cX4_digest 65 = .ok (.ldc2_w 187, 3) := by decide +kernel
theorem dX4_digest_68 : decode cX4_digest 68 = .ok (.lload_n 1, 1) := by decide +kernel
theorem dX4_digest_69 : decode cX4_digest 69 = .ok (.lmul, 1) := by decide +kernel
theorem dX4_digest_70 : decode cX4_digest 70 = .ok (.aload_n 0, 1) := by decide +kernel
theorem dX4_digest_71 : decode cX4_digest 71 = .ok (.getfield 10, 3) := by decide +kernel
theorem dX4_digest_74 : decode cX4_digest 74 = .ok (.iload_n 3, 1) := by decide +kernel
theorem dX4_digest_75 : decode cX4_digest 75 = .ok (.invokevirtual 192, 3) := by decide +kernel
theorem dX4_digest_78 : decode cX4_digest 78 = .ok (.i2l, 1) := by decide +kernel
theorem dX4_digest_79 : decode cX4_digest 79 = .ok (.ladd, 1) := by decide +kernel
theorem dX4_digest_80 : decode cX4_digest 80 = .ok (.lstore_n 1, 1) := by decide +kernel
theorem dX4_digest_81 : decode cX4_digest 81 = .ok (.ldc2_w 187, 3) := by decide +kernel
theorem dX4_digest_84 : decode cX4_digest 84 = .ok (.lload_n 1, 1) := by decide +kernel
theorem dX4_digest_85 : decode cX4_digest 85 = .ok (.lmul, 1) := by decide +kernel
theorem dX4_digest_86 : decode cX4_digest 86 = .ok (.aload_n 0, 1) := by decide +kernel
theorem dX4_digest_87 : decode cX4_digest 87 = .ok (.getfield 10, 3) := by decide +kernel
theorem dX4_digest_90 : decode cX4_digest 90 = .ok (.iload_n 3, 1) := by decide +kernel
theorem dX4_digest_91 : decode cX4_digest 91 = .ok (.invokevirtual 195, 3) := by decide +kernel
theorem dX4_digest_94 : decode cX4_digest 94 = .ok (.i2l, 1) := by decide +kernel
theorem dX4_digest_95 : decode cX4_digest 95 = .ok (.ladd, 1) := by decide +kernel
theorem dX4_digest_96 : decode cX4_digest 96 = .ok (.lstore_n 1, 1) := by decide +kernel
theorem dX4_digest_97 : decode cX4_digest 97 = .ok (.iinc 3 1, 3) := by decide +kernel
theorem dX4_digest_100 : decode cX4_digest 100 = .ok (.goto (-94), 3) := by decide +kernel
theorem dX4_digest_103 : decode cX4_digest 103 = .ok (.lload_n 1, 1) := by decide +kernel
theorem dX4_digest_104 : decode cX4_digest 104 = .ok (.lreturn, 1) := by decide +kernel
theorem dX4_isHalf_0 : decode cX4_isHalf 0 = .ok (.iload_n 0, 1) := by decide +kernel
theorem dX4_isHalf_1 : decode cX4_isHalf 1 = .ok (.ifCond .eq 8, 3) := by decide +kernel
theorem dX4_isHalf_4 : decode cX4_isHalf 4 = .ok (.iload_n 0, 1) := by decide +kernel
theorem dX4_isHalf_5 : decode cX4_isHalf 5 = .ok (.iconst 1, 1) := by decide +kernel
theorem dX4_isHalf_6 : decode cX4_isHalf 6 = .ok (.if_icmp .ne 7, 3) := by decide +kernel
theorem dX4_isHalf_9 : decode cX4_isHalf 9 = .ok (.iconst 1, 1) := by decide +kernel
theorem dX4_isHalf_10 : decode cX4_isHalf 10 = .ok (.goto 4, 3) := by decide +kernel
theorem dX4_isHalf_13 : decode cX4_isHalf 13 = .ok (.iconst 0, 1) := by decide +kernel
theorem dX4_isHalf_14 : decode cX4_isHalf 14 = .ok (.ireturn, 1) := by decide +kernel
theorem dX4_isAsked_0 : decode cX4_isAsked 0 = .ok (.iload_n 0, 1) := by decide +kernel
theorem dX4_isAsked_1 : decode cX4_isAsked 1 = .ok (.iconst (-1), 1) := by decide +kernel
theorem dX4_isAsked_2 : decode cX4_isAsked 2 = .ok (.if_icmp .lt 13, 3) := by decide +kernel
theorem dX4_isAsked_5 : decode cX4_isAsked 5 = .ok (.iload_n 0, 1) := by decide +kernel
theorem dX4_isAsked_6 : decode cX4_isAsked 6 = .ok (.bipush 7, 2) := by decide +kernel
theorem dX4_isAsked_8 : decode cX4_isAsked 8 = .ok (.if_icmp .ge 7, 3) := by decide +kernel
theorem dX4_isAsked_11 : decode cX4_isAsked 11 = .ok (.iconst 1, 1) := by decide +kernel
theorem dX4_isAsked_12 : decode cX4_isAsked 12 = .ok (.goto 4, 3) := by decide +kernel
theorem dX4_isAsked_15 : decode cX4_isAsked 15 = .ok (.iconst 0, 1) := by decide +kernel
theorem dX4_isAsked_16 : decode cX4_isAsked 16 = .ok (.ireturn, 1) := by decide +kernel
theorem dX4_commonDivisor_0 : decode cX4_commonDivisor 0 = .ok (.iload_n 0, 1) := by decide +kernel
theorem dX4_commonDivisor_1 : decode cX4_commonDivisor 1 = .ok (.istore_n 2, 1) := by decide +kernel
theorem dX4_commonDivisor_2 : decode cX4_commonDivisor 2 = .ok (.iload_n 1, 1) := by decide +kernel
theorem dX4_commonDivisor_3 : decode cX4_commonDivisor 3 = .ok (.istore_n 3, 1) := by decide +kernel
theorem dX4_commonDivisor_4 : decode cX4_commonDivisor 4 = .ok (.iconst 0, 1) := by decide +kernel
theorem dX4_commonDivisor_5 : decode cX4_commonDivisor 5 = .ok (.istore 4, 2) := by decide +kernel
theorem dX4_commonDivisor_7 : decode cX4_commonDivisor 7 = .ok (.iload 4, 2) := by decide +kernel
theorem dX4_commonDivisor_9 : decode cX4_commonDivisor 9 = .ok (.bipush 64, 2) := by decide +kernel
theorem dX4_commonDivisor_11 : decode cX4_commonDivisor 11 = .ok (.if_icmp .ge 23, 3) := by decide +kernel
theorem dX4_commonDivisor_14 : decode cX4_commonDivisor 14 = .ok (.iload_n 3, 1) := by decide +kernel
theorem dX4_commonDivisor_15 : decode cX4_commonDivisor 15 = .ok (.ifCond .le 19, 3) := by decide +kernel
theorem dX4_commonDivisor_18 : decode cX4_commonDivisor 18 = .ok (.iload_n 2, 1) := by decide +kernel
theorem dX4_commonDivisor_19 : decode cX4_commonDivisor 19 = .ok (.iload_n 3, 1) := by decide +kernel
theorem dX4_commonDivisor_20 : decode cX4_commonDivisor 20 = .ok (.irem, 1) := by decide +kernel
theorem dX4_commonDivisor_21 : decode cX4_commonDivisor 21 = .ok (.istore 5, 2) := by decide +kernel
theorem dX4_commonDivisor_23 : decode cX4_commonDivisor 23 = .ok (.iload_n 3, 1) := by decide +kernel
theorem dX4_commonDivisor_24 : decode cX4_commonDivisor 24 = .ok (.istore_n 2, 1) := by decide +kernel
theorem dX4_commonDivisor_25 : decode cX4_commonDivisor 25 = .ok (.iload 5, 2) := by decide +kernel
theorem dX4_commonDivisor_27 : decode cX4_commonDivisor 27 = .ok (.istore_n 3, 1) := by decide +kernel
theorem dX4_commonDivisor_28 : decode cX4_commonDivisor 28 = .ok (.iinc 4 1, 3) := by decide +kernel
theorem dX4_commonDivisor_31 : decode cX4_commonDivisor 31 = .ok (.goto (-24), 3) := by decide +kernel
theorem dX4_commonDivisor_34 : decode cX4_commonDivisor 34 = .ok (.iload_n 2, 1) := by decide +kernel
theorem dX4_commonDivisor_35 : decode cX4_commonDivisor 35 = .ok (.ireturn, 1) := by decide +kernel
set_option maxRecDepth 20000 in
theorem ggX4_told_X0_size : GoodIn wsX4_told wsX0_size := goodIn_r _ [6, 7, 34, 35, 36, 37] (by decide +kernel) (by decide +kernel)
set_option maxRecDepth 20000 in
theorem gX4_told_X0_size : GoodIn wsX4_told (wsV RX4 56 RX0 yX0_size wsX0_size) := goodIn_app (goodIn_of _ (by decide +kernel)) ggX4_told_X0_size
set_option maxRecDepth 20000 in
theorem ggX4_told_X0_wordAt : GoodIn wsX4_told wsX0_wordAt := goodIn_r _ [11, 12, 13, 14, 15, 5, 16, 7, 34, 35, 36, 37] (by decide +kernel) (by decide +kernel)
set_option maxRecDepth 20000 in
theorem gX4_told_X0_wordAt : GoodIn wsX4_told (wsV RX4 148 RX0 yX0_wordAt wsX0_wordAt) := goodIn_app (goodIn_of _ (by decide +kernel)) ggX4_told_X0_wordAt
set_option maxRecDepth 20000 in
theorem ggX4_told_X3_lengthOf : GoodIn wsX4_told wsX3_lengthOf := goodIn_r _ [20, 21, 22, 19, 23, 24, 25, 26] (by decide +kernel) (by decide +kernel)
set_option maxRecDepth 20000 in
theorem gX4_told_X3_lengthOf : GoodIn wsX4_told (va_wsS RX4 48 yX3_lengthOf wsX3_lengthOf) := goodIn_app (goodIn_of _ (by decide +kernel)) ggX4_told_X3_lengthOf
set_option maxRecDepth 20000 in
theorem ggX4_told_X3_letterAt : GoodIn wsX4_told wsX3_letterAt := goodIn_r _ [23, 24, 25, 19, 26] (by decide +kernel) (by decide +kernel)
set_option maxRecDepth 20000 in
theorem gX4_told_X3_letterAt : GoodIn wsX4_told (va_wsS RX4 189 yX3_letterAt wsX3_letterAt) := goodIn_app (goodIn_of _ (by decide +kernel)) ggX4_told_X3_letterAt
theorem dX4_told_0 : decode cX4_told 0 = .ok (.iload_n 1, 1) := by decide +kernel
theorem dX4_told_1 : decode cX4_told 1 = .ok (.ifCond .lt 14, 3) := by decide +kernel
theorem dX4_told_4 : decode cX4_told 4 = .ok (.iload_n 1, 1) := by decide +kernel
theorem dX4_told_5 : decode cX4_told 5 = .ok (.aload_n 0, 1) := by decide +kernel
theorem dX4_told_6 : decode cX4_told 6 = .ok (.getfield 10, 3) := by decide +kernel
theorem dX4_told_9 : decode cX4_told 9 = .ok (.invokevirtual 56, 3) := by decide +kernel
theorem dX4_told_12 : decode cX4_told 12 = .ok (.if_icmp .lt 6, 3) := by decide +kernel
theorem dX4_told_15 : decode cX4_told 15 = .ok (.bipush (-9), 2) := by decide +kernel
theorem dX4_told_17 : decode cX4_told 17 = .ok (.ireturn, 1) := by decide +kernel
theorem dX4_told_18 : decode cX4_told 18 = .ok (.aload_n 0, 1) := by decide +kernel
theorem dX4_told_19 : decode cX4_told 19 = .ok (.getfield 10, 3) := by decide +kernel
theorem dX4_told_22 : decode cX4_told 22 = .ok (.iload_n 1, 1) := by decide +kernel
theorem dX4_told_23 : decode cX4_told 23 = .ok (.invokevirtual 148, 3) := by decide +kernel
theorem dX4_told_26 : decode cX4_told 26 = .ok (.lstore_n 3, 1) := by decide +kernel
theorem dX4_told_27 : decode cX4_told 27 = .ok (.iload_n 2, 1) := by decide +kernel
theorem dX4_told_28 : decode cX4_told 28 = .ok (.ifCond .ge 8, 3) := by decide +kernel
theorem dX4_told_31 : decode cX4_told 31 = .ok (.lload_n 3, 1) := by decide +kernel
theorem dX4_told_32 : decode cX4_told 32 = .ok (.invokestatic 48, 3) := by decide +kernel
theorem dX4_told_35 : decode cX4_told 35 = .ok (.ireturn, 1) := by decide +kernel
theorem dX4_told_36 : decode cX4_told 36 = .ok (.lload_n 3, 1) := by decide +kernel
theorem dX4_told_37 : decode cX4_told 37 = .ok (.iload_n 2, 1) := by decide +kernel
theorem dX4_told_38 : decode cX4_told 38 = .ok (.invokestatic 189, 3) := by decide +kernel
theorem dX4_told_41 : decode cX4_told 41 = .ok (.istore 5, 2) := by decide +kernel
theorem dX4_told_43 : decode cX4_told 43 = .ok (.iload 5, 2) := by decide +kernel
theorem dX4_told_45 : decode cX4_told 45 = .ok (.ifCond .ne 8, 3) := by decide +kernel
theorem dX4_told_48 : decode cX4_told 48 = .ok (.bipush (-9), 2) := by decide +kernel
theorem dX4_told_50 : decode cX4_told 50 = .ok (.goto 5, 3) := by decide +kernel
theorem dX4_told_53 : decode cX4_told 53 = .ok (.iload 5, 2) := by decide +kernel
theorem dX4_told_55 : decode cX4_told 55 = .ok (.ireturn, 1) := by decide +kernel
set_option maxRecDepth 20000 in
theorem ggX4_tallyFitting_J7_fill_53178 : GoodIn wsX4_tallyFitting wsJ7_fill_53178 := goodIn_r _ [7] (by decide +kernel) (by decide +kernel)
set_option maxRecDepth 20000 in
theorem gX4_tallyFitting_J7_fill_53178 : GoodIn wsX4_tallyFitting (va_wsS RX4 198 yJ7_fill_53178 wsJ7_fill_53178) := goodIn_app (goodIn_of _ (by decide +kernel)) ggX4_tallyFitting_J7_fill_53178
set_option maxRecDepth 20000 in
theorem ggX4_tallyFitting_X0_size : GoodIn wsX4_tallyFitting wsX0_size := goodIn_r _ [12, 13, 54, 55, 56, 57] (by decide +kernel) (by decide +kernel)
set_option maxRecDepth 20000 in
theorem gX4_tallyFitting_X0_size : GoodIn wsX4_tallyFitting (wsV RX4 56 RX0 yX0_size wsX0_size) := goodIn_app (goodIn_of _ (by decide +kernel)) ggX4_tallyFitting_X0_size
set_option maxRecDepth 20000 in
theorem ggX4_tallyFitting_X0_wordAt : GoodIn wsX4_tallyFitting wsX0_wordAt := goodIn_r _ [17, 18, 19, 20, 21, 11, 22, 13, 54, 55, 56, 57] (by decide +kernel) (by decide +kernel)
set_option maxRecDepth 20000 in
theorem gX4_tallyFitting_X0_wordAt : GoodIn wsX4_tallyFitting (wsV RX4 148 RX0 yX0_wordAt wsX0_wordAt) := goodIn_app (goodIn_of _ (by decide +kernel)) ggX4_tallyFitting_X0_wordAt
set_option maxRecDepth 20000 in
theorem ggX4_tallyFitting_X2_allow : GoodIn wsX4_tallyFitting wsX2_allow := goodIn_r _ [27, 28, 29, 30, 31, 32, 33, 34, 35, 36, 37, 38, 58, 59, 60, 61] (by decide +kernel) (by decide +kernel)
set_option maxRecDepth 20000 in
theorem gX4_tallyFitting_X2_allow : GoodIn wsX4_tallyFitting (wsV RX4 152 RX2 yX2_allow wsX2_allow) := goodIn_app (goodIn_of _ (by decide +kernel)) ggX4_tallyFitting_X2_allow
set_option maxRecDepth 20000 in
theorem ggX4_tallyFitting_X4_tallyLetters : GoodIn wsX4_tallyFitting wsX4_tallyLetters := goodIn_r _ [43, 1, 44, 33, 34, 35, 36, 37, 38, 45, 46, 47, 48, 49, 50, 51, 52, 53] (by decide +kernel) (by decide +kernel)
set_option maxRecDepth 20000 in
theorem gX4_tallyFitting_X4_tallyLetters : GoodIn wsX4_tallyFitting (wsV RX4 204 RX4 yX4_tallyLetters wsX4_tallyLetters) := goodIn_app (goodIn_of _ (by decide +kernel)) ggX4_tallyFitting_X4_tallyLetters
theorem dX4_tallyFitting_0 : decode cX4_tallyFitting 0 = .ok (.aload_n 0, 1) := by decide +kernel
theorem dX4_tallyFitting_1 : decode cX4_tallyFitting 1 = .ok (.getfield 30, 3) := by decide +kernel
theorem dX4_tallyFitting_4 : decode cX4_tallyFitting 4 = .ok (.iconst 0, 1) := by decide +kernel
theorem dX4_tallyFitting_5 : decode cX4_tallyFitting 5 = .ok (.invokestatic 198, 3) := by decide +kernel
theorem dX4_tallyFitting_8 : decode cX4_tallyFitting 8 = .ok (.iconst 0, 1) := by decide +kernel
theorem dX4_tallyFitting_9 : decode cX4_tallyFitting 9 = .ok (.istore_n 1, 1) := by decide +kernel
theorem dX4_tallyFitting_10 : decode cX4_tallyFitting 10 = .ok (.iconst 0, 1) := by decide +kernel
theorem dX4_tallyFitting_11 : decode cX4_tallyFitting 11 = .ok (.istore_n 2, 1) := by decide +kernel
theorem dX4_tallyFitting_12 : decode cX4_tallyFitting 12 = .ok (.iload_n 2, 1) := by decide +kernel
theorem dX4_tallyFitting_13 : decode cX4_tallyFitting 13 = .ok (.aload_n 0, 1) := by decide +kernel
theorem dX4_tallyFitting_14 : decode cX4_tallyFitting 14 = .ok (.getfield 10, 3) := by decide +kernel
theorem dX4_tallyFitting_17 : decode cX4_tallyFitting 17 = .ok (.invokevirtual 56, 3) := by decide +kernel
theorem dX4_tallyFitting_20 : decode cX4_tallyFitting 20 = .ok (.if_icmp .ge 37, 3) := by decide +kernel
theorem dX4_tallyFitting_23 : decode cX4_tallyFitting 23 = .ok (.aload_n 0, 1) := by decide +kernel
theorem dX4_tallyFitting_24 : decode cX4_tallyFitting 24 = .ok (.getfield 10, 3) := by decide +kernel
theorem dX4_tallyFitting_27 : decode cX4_tallyFitting 27 = .ok (.iload_n 2, 1) := by decide +kernel
theorem dX4_tallyFitting_28 : decode cX4_tallyFitting 28 = .ok (.invokevirtual 148, 3) := by decide +kernel
theorem dX4_tallyFitting_31 : decode cX4_tallyFitting 31 = .ok (.lstore_n 3, 1) := by decide +kernel
theorem dX4_tallyFitting_32 : decode cX4_tallyFitting 32 = .ok (.aload_n 0, 1) := by decide +kernel
theorem dX4_tallyFitting_33 : decode cX4_tallyFitting 33 = .ok (.getfield 26, 3) := by decide +kernel
theorem dX4_tallyFitting_36 : decode cX4_tallyFitting 36 = .ok (.lload_n 3, 1) := by decide +kernel
theorem dX4_tallyFitting_37 : decode cX4_tallyFitting 37 = .ok (.invokevirtual 152, 3) := by decide +kernel
theorem dX4_tallyFitting_40 : decode cX4_tallyFitting 40 = .ok (.ifCond .eq 11, 3) := by decide +kernel
theorem dX4_tallyFitting_43 : decode cX4_tallyFitting 43 = .ok (.iinc 1 1, 3) := by decide +kernel
theorem dX4_tallyFitting_46 : decode cX4_tallyFitting 46 = .ok (.aload_n 0, 1) := by decide +kernel
theorem dX4_tallyFitting_47 : decode cX4_tallyFitting 47 = .ok (.lload_n 3, 1) := by decide +kernel
theorem dX4_tallyFitting_48 : decode cX4_tallyFitting 48 = .ok (.invokevirtual 204, 3) := by decide +kernel
theorem dX4_tallyFitting_51 : decode cX4_tallyFitting 51 = .ok (.iinc 2 1, 3) := by decide +kernel
theorem dX4_tallyFitting_54 : decode cX4_tallyFitting 54 = .ok (.goto (-42), 3) := by decide +kernel
theorem dX4_tallyFitting_57 : decode cX4_tallyFitting 57 = .ok (.iload_n 1, 1) := by decide +kernel
theorem dX4_tallyFitting_58 : decode cX4_tallyFitting 58 = .ok (.ireturn, 1) := by decide +kernel
set_option maxRecDepth 20000 in
theorem ggX4_tallyLetters_X3_letterAt : GoodIn wsX4_tallyLetters wsX3_letterAt := goodIn_r _ [5, 6, 7, 4, 8] (by decide +kernel) (by decide +kernel)
set_option maxRecDepth 20000 in
theorem gX4_tallyLetters_X3_letterAt : GoodIn wsX4_tallyLetters (va_wsS RX4 189 yX3_letterAt wsX3_letterAt) := goodIn_app (goodIn_of _ (by decide +kernel)) ggX4_tallyLetters_X3_letterAt
set_option maxRecDepth 20000 in
theorem ggX4_tallyLetters_X3_isLetter : GoodIn wsX4_tallyLetters wsX3_isLetter := goodIn_r _ [11] (by decide +kernel) (by decide +kernel)
set_option maxRecDepth 20000 in
theorem gX4_tallyLetters_X3_isLetter : GoodIn wsX4_tallyLetters (va_wsS RX4 44 yX3_isLetter wsX3_isLetter) := goodIn_app (goodIn_of _ (by decide +kernel)) ggX4_tallyLetters_X3_isLetter
theorem dX4_tallyLetters_0 : decode cX4_tallyLetters 0 = .ok (.iconst 0, 1) := by decide +kernel
theorem dX4_tallyLetters_1 : decode cX4_tallyLetters 1 = .ok (.istore_n 3, 1) := by decide +kernel
theorem dX4_tallyLetters_2 : decode cX4_tallyLetters 2 = .ok (.iload_n 3, 1) := by decide +kernel
theorem dX4_tallyLetters_3 : decode cX4_tallyLetters 3 = .ok (.bipush 7, 2) := by decide +kernel
theorem dX4_tallyLetters_5 : decode cX4_tallyLetters 5 = .ok (.if_icmp .ge 43, 3) := by decide +kernel
theorem dX4_tallyLetters_8 : decode cX4_tallyLetters 8 = .ok (.lload_n 1, 1) := by decide +kernel
theorem dX4_tallyLetters_9 : decode cX4_tallyLetters 9 = .ok (.iload_n 3, 1) := by decide +kernel
theorem dX4_tallyLetters_10 : decode cX4_tallyLetters 10 = .ok (.invokestatic 189, 3) := by decide +kernel
theorem dX4_tallyLetters_13 : decode cX4_tallyLetters 13 = .ok (.istore 4, 2) := by decide +kernel
theorem dX4_tallyLetters_15 : decode cX4_tallyLetters 15 = .ok (.iload 4, 2) := by decide +kernel
theorem dX4_tallyLetters_17 : decode cX4_tallyLetters 17 = .ok (.invokestatic 44, 3) := by decide +kernel
theorem dX4_tallyLetters_20 : decode cX4_tallyLetters 20 = .ok (.ifCond .eq 22, 3) := by decide +kernel
theorem dX4_tallyLetters_23 : decode cX4_tallyLetters 23 = .ok (.aload_n 0, 1) := by decide +kernel
theorem dX4_tallyLetters_24 : decode cX4_tallyLetters 24 = .ok (.getfield 30, 3) := by decide +kernel
theorem dX4_tallyLetters_27 : decode cX4_tallyLetters 27 = .ok (.iload_n 3, 1) := by decide +kernel
theorem dX4_tallyLetters_28 : decode cX4_tallyLetters 28 = .ok (.bipush 26, 2) := by decide +kernel
theorem dX4_tallyLetters_30 : decode cX4_tallyLetters 30 = .ok (.imul, 1) := by decide +kernel
theorem dX4_tallyLetters_31 : decode cX4_tallyLetters 31 = .ok (.iload 4, 2) := by decide +kernel
theorem dX4_tallyLetters_33 : decode cX4_tallyLetters 33 = .ok (.iadd, 1) := by decide +kernel
theorem dX4_tallyLetters_34 : decode cX4_tallyLetters 34 = .ok (.bipush 97, 2) := by decide +kernel
theorem dX4_tallyLetters_36 : decode cX4_tallyLetters 36 = .ok (.isub, 1) := by decide +kernel
theorem dX4_tallyLetters_37 : decode cX4_tallyLetters 37 = .ok (.dup2, 1) := by decide +kernel
theorem dX4_tallyLetters_38 : decode cX4_tallyLetters 38 = .ok (.iaload, 1) := by decide +kernel
theorem dX4_tallyLetters_39 : decode cX4_tallyLetters 39 = .ok (.iconst 1, 1) := by decide +kernel
theorem dX4_tallyLetters_40 : decode cX4_tallyLetters 40 = .ok (.iadd, 1) := by decide +kernel
theorem dX4_tallyLetters_41 : decode cX4_tallyLetters 41 = .ok (.iastore, 1) := by decide +kernel
theorem dX4_tallyLetters_42 : decode cX4_tallyLetters 42 = .ok (.iinc 3 1, 3) := by decide +kernel
theorem dX4_tallyLetters_45 : decode cX4_tallyLetters 45 = .ok (.goto (-43), 3) := by decide +kernel
theorem dX4_tallyLetters_48 : decode cX4_tallyLetters 48 = .ok (.return_, 1) := by decide +kernel
end
section
theorem dX5_init_0 : decode cX5_init 0 = .ok (.aload_n 0, 1) := by decide +kernel
theorem dX5_init_1 : decode cX5_init 1 = .ok (.invokespecial 1, 3) := by decide +kernel
theorem dX5_init_4 : decode cX5_init 4 = .ok (.aload_n 0, 1) := by decide +kernel
theorem dX5_init_5 : decode cX5_init 5 = .ok (.bipush 7, 2) := by decide +kernel
theorem dX5_init_7 : decode cX5_init 7 = .ok (.newarray .int, 2) := by decide +kernel
theorem dX5_init_9 : decode cX5_init 9 = .ok (.putfield 7, 3) := by decide +kernel
theorem dX5_init_12 : decode cX5_init 12 = .ok (.aload_n 0, 1) := by decide +kernel
theorem dX5_init_13 : decode cX5_init 13 = .ok (.iconst 4, 1) := by decide +kernel
theorem dX5_init_14 : decode cX5_init 14 = .ok (.putfield 13, 3) := by decide +kernel
theorem dX5_init_17 : decode cX5_init 17 = .ok (.aload_n 0, 1) := by decide +kernel
theorem dX5_init_18 : decode cX5_init 18 = .ok (.bipush 41, 2) := by decide +kernel
theorem dX5_init_20 : decode cX5_init 20 = .ok (.newarray .long, 2) := by decide +kernel
theorem dX5_init_22 : decode cX5_init 22 = .ok (.putfield 17, 3) := by decide +kernel
theorem dX5_init_25 : decode cX5_init 25 = .ok (.aload_n 0, 1) := by decide +kernel
theorem dX5_init_26 : decode cX5_init 26 = .ok (.bipush 41, 2) := by decide +kernel
theorem dX5_init_28 : decode cX5_init 28 = .ok (.newarray .int, 2) := by decide +kernel
theorem dX5_init_30 : decode cX5_init 30 = .ok (.putfield 21, 3) := by decide +kernel
theorem dX5_init_33 : decode cX5_init 33 = .ok (.aload_n 0, 1) := by decide +kernel
theorem dX5_init_34 : decode cX5_init 34 = .ok (.sipush 200, 3) := by decide +kernel
theorem dX5_init_37 : decode cX5_init 37 = .ok (.newarray .long, 2) := by decide +kernel
theorem dX5_init_39 : decode cX5_init 39 = .ok (.putfield 24, 3) := by decide +kernel
theorem dX5_init_42 : decode cX5_init 42 = .ok (.aload_n 0, 1) := by decide +kernel
theorem dX5_init_43 : decode cX5_init 43 = .ok (.sipush 3384, 3) := by decide +kernel
theorem dX5_init_46 : decode cX5_init 46 = .ok (.newarray .long, 2) := by decide +kernel
theorem dX5_init_48 : decode cX5_init 48 = .ok (.putfield 27, 3) := by decide +kernel
theorem dX5_init_51 : decode cX5_init 51 = .ok (.aload_n 0, 1) := by decide +kernel
theorem dX5_init_52 : decode cX5_init 52 = .ok (.bipush 8, 2) := by decide +kernel
theorem dX5_init_54 : decode cX5_init 54 = .ok (.newarray .int, 2) := by decide +kernel
theorem dX5_init_56 : decode cX5_init 56 = .ok (.putfield 30, 3) := by decide +kernel
theorem dX5_init_59 : decode cX5_init 59 = .ok (.aload_n 0, 1) := by decide +kernel
theorem dX5_init_60 : decode cX5_init 60 = .ok (.bipush 8, 2) := by decide +kernel
theorem dX5_init_62 : decode cX5_init 62 = .ok (.newarray .int, 2) := by decide +kernel
theorem dX5_init_64 : decode cX5_init 64 = .ok (.putfield 33, 3) := by decide +kernel
theorem dX5_init_67 : decode cX5_init 67 = .ok (.aload_n 0, 1) := by decide +kernel
theorem dX5_init_68 : decode cX5_init 68 = .ok (.bipush 8, 2) := by decide +kernel
theorem dX5_init_70 : decode cX5_init 70 = .ok (.newarray .int, 2) := by decide +kernel
theorem dX5_init_72 : decode cX5_init 72 = .ok (.putfield 36, 3) := by decide +kernel
theorem dX5_init_75 : decode cX5_init 75 = .ok (.aload_n 0, 1) := by decide +kernel
theorem dX5_init_76 : decode cX5_init 76 = .ok (.bipush 41, 2) := by decide +kernel
theorem dX5_init_78 : decode cX5_init 78 = .ok (.newarray .boolean, 2) := by decide +kernel
theorem dX5_init_80 : decode cX5_init 80 = .ok (.putfield 39, 3) := by decide +kernel
theorem dX5_init_83 : decode cX5_init 83 = .ok (.aload_n 0, 1) := by decide +kernel
theorem dX5_init_84 : decode cX5_init 84 = .ok (.iconst 0, 1) := by decide +kernel
theorem dX5_init_85 : decode cX5_init 85 = .ok (.putfield 43, 3) := by decide +kernel
theorem dX5_init_88 : decode cX5_init 88 = .ok (.return_, 1) := by decide +kernel
theorem dX5_in_0 : decode cX5_in 0 = .ok (.iload_n 0, 1) := by decide +kernel
theorem dX5_in_1 : decode cX5_in 1 = .ok (.iload_n 1, 1) := by decide +kernel
theorem dX5_in_2 : decode cX5_in 2 = .ok (.if_icmp .lt 12, 3) := by decide +kernel
theorem dX5_in_5 : decode cX5_in 5 = .ok (.iload_n 0, 1) := by decide +kernel
theorem dX5_in_6 : decode cX5_in 6 = .ok (.iload_n 2, 1) := by decide +kernel
theorem dX5_in_7 : decode cX5_in 7 = .ok (.if_icmp .gt 7, 3) := by decide +kernel
theorem dX5_in_10 : decode cX5_in 10 = .ok (.iconst 1, 1) := by decide +kernel
theorem dX5_in_11 : decode cX5_in 11 = .ok (.goto 4, 3) := by decide +kernel
theorem dX5_in_14 : decode cX5_in 14 = .ok (.iconst 0, 1) := by decide +kernel
theorem dX5_in_15 : decode cX5_in 15 = .ok (.ireturn, 1) := by decide +kernel
theorem dX5_unit_0 : decode cX5_unit 0 = .ok (.lconst 1, 1) := by decide +kernel
theorem dX5_unit_1 : decode cX5_unit 1 = .ok (.lstore_n 1, 1) := by decide +kernel
theorem dX5_unit_2 : decode cX5_unit 2 = .ok (.iload_n 0, 1) := by decide +kernel
theorem dX5_unit_3 : decode cX5_unit 3 = .ok (.istore_n 3, 1) := by decide +kernel
theorem dX5_unit_4 : decode cX5_unit 4 = .ok (.iload_n 3, 1) := by decide +kernel
theorem dX5_unit_5 : decode cX5_unit 5 = .ok (.bipush 7, 2) := by decide +kernel
theorem dX5_unit_7 : decode cX5_unit 7 = .ok (.if_icmp .ge 15, 3) := by decide +kernel
theorem dX5_unit_10 : decode cX5_unit 10 = .ok (.lload_n 1, 1) := by decide +kernel
theorem dX5_unit_11 : decode cX5_unit 11 = .ok (.ldc2_w 46, 3) := by decide +kernel
theorem dX5_unit_14 : decode cX5_unit 14 = .ok (.lmul, 1) := by decide +kernel
theorem dX5_unit_15 : decode cX5_unit 15 = .ok (.lstore_n 1, 1) := by decide +kernel
theorem dX5_unit_16 : decode cX5_unit 16 = .ok (.iinc 3 1, 3) := by decide +kernel
theorem dX5_unit_19 : decode cX5_unit 19 = .ok (.goto (-15), 3) := by decide +kernel
theorem dX5_unit_22 : decode cX5_unit 22 = .ok (.lload_n 1, 1) := by decide +kernel
theorem dX5_unit_23 : decode cX5_unit 23 = .ok (.lreturn, 1) := by decide +kernel
set_option maxRecDepth 20000 in
theorem ggX5_head_X5_unit : GoodIn wsX5_head wsX5_unit := goodIn_r _ [4, 5] (by decide +kernel) (by decide +kernel)
set_option maxRecDepth 20000 in
theorem gX5_head_X5_unit : GoodIn wsX5_head (va_wsS RX5 48 yX5_unit wsX5_unit) := goodIn_app (goodIn_of _ (by decide +kernel)) ggX5_head_X5_unit
theorem dX5_head_0 : decode cX5_head 0 = .ok (.lload_n 0, 1) := by decide +kernel
theorem dX5_head_1 : decode cX5_head 1 = .ok (.lload_n 0, 1) := by decide +kernel
theorem dX5_head_2 : decode cX5_head 2 = .ok (.iload_n 2, 1) := by decide +kernel
theorem dX5_head_3 : decode cX5_head 3 = .ok (.invokestatic 48, 3) := by decide +kernel
theorem dX5_head_6 : decode cX5_head 6 = .ok (.lrem, 1) := by decide +kernel
theorem dX5_head_7 : decode cX5_head 7 = .ok (.lsub, 1) := by decide +kernel
theorem dX5_head_8 : decode cX5_head 8 = .ok (.lreturn, 1) := by decide +kernel
set_option maxRecDepth 20000 in
theorem ggX5_sign_X5_unit : GoodIn wsX5_sign wsX5_unit := goodIn_r _ [5, 1] (by decide +kernel) (by decide +kernel)
set_option maxRecDepth 20000 in
theorem gX5_sign_X5_unit : GoodIn wsX5_sign (va_wsS RX5 48 yX5_unit wsX5_unit) := goodIn_app (goodIn_of _ (by decide +kernel)) ggX5_sign_X5_unit
theorem dX5_sign_0 : decode cX5_sign 0 = .ok (.lload_n 0, 1) := by decide +kernel
theorem dX5_sign_1 : decode cX5_sign 1 = .ok (.iload_n 2, 1) := by decide +kernel
theorem dX5_sign_2 : decode cX5_sign 2 = .ok (.iconst 1, 1) := by decide +kernel
theorem dX5_sign_3 : decode cX5_sign 3 = .ok (.iadd, 1) := by decide +kernel
theorem dX5_sign_4 : decode cX5_sign 4 = .ok (.invokestatic 48, 3) := by decide +kernel
theorem dX5_sign_7 : decode cX5_sign 7 = .ok (.ldiv, 1) := by decide +kernel
theorem dX5_sign_8 : decode cX5_sign 8 = .ok (.ldc2_w 46, 3) := by decide +kernel
theorem dX5_sign_11 : decode cX5_sign 11 = .ok (.lrem, 1) := by decide +kernel
theorem dX5_sign_12 : decode cX5_sign 12 = .ok (.l2i, 1) := by decide +kernel
theorem dX5_sign_13 : decode cX5_sign 13 = .ok (.ireturn, 1) := by decide +kernel
set_option maxRecDepth 20000 in
theorem ggX5_size_X5_sign : GoodIn wsX5_size wsX5_sign := goodIn_r _ [4, 5, 6, 7, 3, 8] (by decide +kernel) (by decide +kernel)
set_option maxRecDepth 20000 in
theorem gX5_size_X5_sign : GoodIn wsX5_size (va_wsS RX5 52 yX5_sign wsX5_sign) := goodIn_app (goodIn_of _ (by decide +kernel)) ggX5_size_X5_sign
theorem dX5_size_0 : decode cX5_size 0 = .ok (.iconst 0, 1) := by decide +kernel
theorem dX5_size_1 : decode cX5_size 1 = .ok (.istore_n 2, 1) := by decide +kernel
theorem dX5_size_2 : decode cX5_size 2 = .ok (.iload_n 2, 1) := by decide +kernel
theorem dX5_size_3 : decode cX5_size 3 = .ok (.bipush 7, 2) := by decide +kernel
theorem dX5_size_5 : decode cX5_size 5 = .ok (.if_icmp .ge 17, 3) := by decide +kernel
theorem dX5_size_8 : decode cX5_size 8 = .ok (.lload_n 0, 1) := by decide +kernel
theorem dX5_size_9 : decode cX5_size 9 = .ok (.iload_n 2, 1) := by decide +kernel
theorem dX5_size_10 : decode cX5_size 10 = .ok (.invokestatic 52, 3) := by decide +kernel
theorem dX5_size_13 : decode cX5_size 13 = .ok (.ifCond .le 9, 3) := by decide +kernel
theorem dX5_size_16 : decode cX5_size 16 = .ok (.iinc 2 1, 3) := by decide +kernel
theorem dX5_size_19 : decode cX5_size 19 = .ok (.goto (-17), 3) := by decide +kernel
theorem dX5_size_22 : decode cX5_size 22 = .ok (.iload_n 2, 1) := by decide +kernel
theorem dX5_size_23 : decode cX5_size 23 = .ok (.ireturn, 1) := by decide +kernel
theorem dX5_own_0 : decode cX5_own 0 = .ok (.lconst 0, 1) := by decide +kernel
theorem dX5_own_1 : decode cX5_own 1 = .ok (.lstore_n 1, 1) := by decide +kernel
theorem dX5_own_2 : decode cX5_own 2 = .ok (.iconst 0, 1) := by decide +kernel
theorem dX5_own_3 : decode cX5_own 3 = .ok (.istore_n 3, 1) := by decide +kernel
theorem dX5_own_4 : decode cX5_own 4 = .ok (.iload_n 3, 1) := by decide +kernel
theorem dX5_own_5 : decode cX5_own 5 = .ok (.bipush 7, 2) := by decide +kernel
theorem dX5_own_7 : decode cX5_own 7 = .ok (.if_icmp .ge 35, 3) := by decide +kernel
theorem dX5_own_10 : decode cX5_own 10 = .ok (.lload_n 1, 1) := by decide +kernel
theorem dX5_own_11 : decode cX5_own 11 = .ok (.ldc2_w 46, 3) := by decide +kernel
theorem dX5_own_14 : decode cX5_own 14 = .ok (.lmul, 1) := by decide +kernel
theorem dX5_own_15 : decode cX5_own 15 = .ok (.iload_n 3, 1) := by decide +kernel
theorem dX5_own_16 : decode cX5_own 16 = .ok (.aload_n 0, 1) := by decide +kernel
theorem dX5_own_17 : decode cX5_own 17 = .ok (.getfield 56, 3) := by decide +kernel
theorem dX5_own_20 : decode cX5_own 20 = .ok (.if_icmp .ge 12, 3) := by decide +kernel
theorem dX5_own_23 : decode cX5_own 23 = .ok (.aload_n 0, 1) := by decide +kernel
theorem dX5_own_24 : decode cX5_own 24 = .ok (.getfield 7, 3) := by decide +kernel
theorem dX5_own_27 : decode cX5_own 27 = .ok (.iload_n 3, 1) := by decide +kernel
theorem dX5_own_28 : decode cX5_own 28 = .ok (.iaload, 1) := by decide +kernel
theorem dX5_own_29 : decode cX5_own 29 = .ok (.goto 4, 3) := by decide +kernel
theorem dX5_own_32 : decode cX5_own 32 = .ok (.iconst 0, 1) := by decide +kernel
theorem dX5_own_33 : decode cX5_own 33 = .ok (.i2l, 1) := by decide +kernel
theorem dX5_own_34 : decode cX5_own 34 = .ok (.ladd, 1) := by decide +kernel
theorem dX5_own_35 : decode cX5_own 35 = .ok (.lstore_n 1, 1) := by decide +kernel
theorem dX5_own_36 : decode cX5_own 36 = .ok (.iinc 3 1, 3) := by decide +kernel
theorem dX5_own_39 : decode cX5_own 39 = .ok (.goto (-35), 3) := by decide +kernel
theorem dX5_own_42 : decode cX5_own 42 = .ok (.lload_n 1, 1) := by decide +kernel
theorem dX5_own_43 : decode cX5_own 43 = .ok (.lreturn, 1) := by decide +kernel
set_option maxRecDepth 20000 in
theorem ggX5_begins_X5_size : GoodIn wsX5_begins wsX5_size := goodIn_r _ [4, 5, 6, 3, 7, 8, 9, 10, 11] (by decide +kernel) (by decide +kernel)
set_option maxRecDepth 20000 in
theorem gX5_begins_X5_size : GoodIn wsX5_begins (va_wsS RX5 59 yX5_size wsX5_size) := goodIn_app (goodIn_of _ (by decide +kernel)) ggX5_begins_X5_size
set_option maxRecDepth 20000 in
theorem ggX5_begins_X5_head : GoodIn wsX5_begins wsX5_head := goodIn_r _ [14, 9, 10, 3, 11, 8] (by decide +kernel) (by decide +kernel)
set_option maxRecDepth 20000 in
theorem gX5_begins_X5_head : GoodIn wsX5_begins (va_wsS RX5 63 yX5_head wsX5_head) := goodIn_app (goodIn_of _ (by decide +kernel)) ggX5_begins_X5_head
theorem dX5_begins_0 : decode cX5_begins 0 = .ok (.lload_n 0, 1) := by decide +kernel
theorem dX5_begins_1 : decode cX5_begins 1 = .ok (.lload_n 2, 1) := by decide +kernel
theorem dX5_begins_2 : decode cX5_begins 2 = .ok (.invokestatic 59, 3) := by decide +kernel
theorem dX5_begins_5 : decode cX5_begins 5 = .ok (.invokestatic 63, 3) := by decide +kernel
theorem dX5_begins_8 : decode cX5_begins 8 = .ok (.lload_n 2, 1) := by decide +kernel
theorem dX5_begins_9 : decode cX5_begins 9 = .ok (.lcmp, 1) := by decide +kernel
theorem dX5_begins_10 : decode cX5_begins 10 = .ok (.ifCond .ne 7, 3) := by decide +kernel
theorem dX5_begins_13 : decode cX5_begins 13 = .ok (.iconst 1, 1) := by decide +kernel
theorem dX5_begins_14 : decode cX5_begins 14 = .ok (.goto 4, 3) := by decide +kernel
theorem dX5_begins_17 : decode cX5_begins 17 = .ok (.iconst 0, 1) := by decide +kernel
theorem dX5_begins_18 : decode cX5_begins 18 = .ok (.ireturn, 1) := by decide +kernel
theorem dX5_placeOf_0 : decode cX5_placeOf 0 = .ok (.iconst (-1), 1) := by decide +kernel
theorem dX5_placeOf_1 : decode cX5_placeOf 1 = .ok (.istore_n 3, 1) := by decide +kernel
theorem dX5_placeOf_2 : decode cX5_placeOf 2 = .ok (.iconst 0, 1) := by decide +kernel
theorem dX5_placeOf_3 : decode cX5_placeOf 3 = .ok (.istore 4, 2) := by decide +kernel
theorem dX5_placeOf_5 : decode cX5_placeOf 5 = .ok (.iload 4, 2) := by decide +kernel
theorem dX5_placeOf_7 : decode cX5_placeOf 7 = .ok (.aload_n 0, 1) := by decide +kernel
theorem dX5_placeOf_8 : decode cX5_placeOf 8 = .ok (.getfield 67, 3) := by decide +kernel
theorem dX5_placeOf_11 : decode cX5_placeOf 11 = .ok (.if_icmp .ge 28, 3) := by decide +kernel
theorem dX5_placeOf_14 : decode cX5_placeOf 14 = .ok (.aload_n 0, 1) := by decide +kernel
theorem dX5_placeOf_15 : decode cX5_placeOf 15 = .ok (.getfield 17, 3) := by decide +kernel
theorem dX5_placeOf_18 : decode cX5_placeOf 18 = .ok (.iload 4, 2) := by decide +kernel
theorem dX5_placeOf_20 : decode cX5_placeOf 20 = .ok (.laload, 1) := by decide +kernel
theorem dX5_placeOf_21 : decode cX5_placeOf 21 = .ok (.lload_n 1, 1) := by decide +kernel
theorem dX5_placeOf_22 : decode cX5_placeOf 22 = .ok (.lcmp, 1) := by decide +kernel
theorem dX5_placeOf_23 : decode cX5_placeOf 23 = .ok (.ifCond .ne 8, 3) := by decide +kernel
theorem dX5_placeOf_26 : decode cX5_placeOf 26 = .ok (.iload 4, 2) := by decide +kernel
theorem dX5_placeOf_28 : decode cX5_placeOf 28 = .ok (.goto 4, 3) := by decide +kernel
theorem dX5_placeOf_31 : decode cX5_placeOf 31 = .ok (.iload_n 3, 1) := by decide +kernel
theorem dX5_placeOf_32 : decode cX5_placeOf 32 = .ok (.istore_n 3, 1) := by decide +kernel
theorem dX5_placeOf_33 : decode cX5_placeOf 33 = .ok (.iinc 4 1, 3) := by decide +kernel
theorem dX5_placeOf_36 : decode cX5_placeOf 36 = .ok (.goto (-31), 3) := by decide +kernel
theorem dX5_placeOf_39 : decode cX5_placeOf 39 = .ok (.iload_n 3, 1) := by decide +kernel
theorem dX5_placeOf_40 : decode cX5_placeOf 40 = .ok (.ireturn, 1) := by decide +kernel
set_option maxRecDepth 20000 in
theorem ggX5_beginning_X5_begins : GoodIn wsX5_beginning wsX5_begins := goodIn_r _ [6, 7, 8, 5, 9, 10, 11, 12, 13, 14, 15, 16, 17, 18, 19] (by decide +kernel) (by decide +kernel)
set_option maxRecDepth 20000 in
theorem gX5_beginning_X5_begins : GoodIn wsX5_beginning (va_wsS RX5 70 yX5_begins wsX5_begins) := goodIn_app (goodIn_of _ (by decide +kernel)) ggX5_beginning_X5_begins
theorem dX5_beginning_0 : decode cX5_beginning 0 = .ok (.iconst 0, 1) := by decide +kernel
theorem dX5_beginning_1 : decode cX5_beginning 1 = .ok (.istore_n 3, 1) := by decide +kernel
theorem dX5_beginning_2 : decode cX5_beginning 2 = .ok (.iconst 0, 1) := by decide +kernel
theorem dX5_beginning_3 : decode cX5_beginning 3 = .ok (.istore 4, 2) := by decide +kernel
theorem dX5_beginning_5 : decode cX5_beginning 5 = .ok (.iload 4, 2) := by decide +kernel
theorem dX5_beginning_7 : decode cX5_beginning 7 = .ok (.aload_n 0, 1) := by decide +kernel
theorem dX5_beginning_8 : decode cX5_beginning 8 = .ok (.getfield 67, 3) := by decide +kernel
theorem dX5_beginning_11 : decode cX5_beginning 11 = .ok (.if_icmp .ge 31, 3) := by decide +kernel
theorem dX5_beginning_14 : decode cX5_beginning 14 = .ok (.iload_n 3, 1) := by decide +kernel
theorem dX5_beginning_15 : decode cX5_beginning 15 = .ok (.aload_n 0, 1) := by decide +kernel
theorem dX5_beginning_16 : decode cX5_beginning 16 = .ok (.getfield 17, 3) := by decide +kernel
theorem dX5_beginning_19 : decode cX5_beginning 19 = .ok (.iload 4, 2) := by decide +kernel
theorem dX5_beginning_21 : decode cX5_beginning 21 = .ok (.laload, 1) := by decide +kernel
theorem dX5_beginning_22 : decode cX5_beginning 22 = .ok (.lload_n 1, 1) := by decide +kernel
theorem dX5_beginning_23 : decode cX5_beginning 23 = .ok (.invokestatic 70, 3) := by decide +kernel
theorem dX5_beginning_26 : decode cX5_beginning 26 = .ok (.ifCond .eq 7, 3) := by decide +kernel
theorem dX5_beginning_29 : decode cX5_beginning 29 = .ok (.iconst 1, 1) := by decide +kernel
theorem dX5_beginning_30 : decode cX5_beginning 30 = .ok (.goto 4, 3) := by decide +kernel
theorem dX5_beginning_33 : decode cX5_beginning 33 = .ok (.iconst 0, 1) := by decide +kernel
theorem dX5_beginning_34 : decode cX5_beginning 34 = .ok (.iadd, 1) := by decide +kernel
theorem dX5_beginning_35 : decode cX5_beginning 35 = .ok (.istore_n 3, 1) := by decide +kernel
theorem dX5_beginning_36 : decode cX5_beginning 36 = .ok (.iinc 4 1, 3) := by decide +kernel
theorem dX5_beginning_39 : decode cX5_beginning 39 = .ok (.goto (-34), 3) := by decide +kernel
theorem dX5_beginning_42 : decode cX5_beginning 42 = .ok (.iload_n 3, 1) := by decide +kernel
theorem dX5_beginning_43 : decode cX5_beginning 43 = .ok (.ireturn, 1) := by decide +kernel
theorem dX5_isNode_0 : decode cX5_isNode 0 = .ok (.iconst 0, 1) := by decide +kernel
theorem dX5_isNode_1 : decode cX5_isNode 1 = .ok (.istore_n 3, 1) := by decide +kernel
theorem dX5_isNode_2 : decode cX5_isNode 2 = .ok (.iconst 0, 1) := by decide +kernel
theorem dX5_isNode_3 : decode cX5_isNode 3 = .ok (.istore 4, 2) := by decide +kernel
theorem dX5_isNode_5 : decode cX5_isNode 5 = .ok (.iload 4, 2) := by decide +kernel
theorem dX5_isNode_7 : decode cX5_isNode 7 = .ok (.aload_n 0, 1) := by decide +kernel
theorem dX5_isNode_8 : decode cX5_isNode 8 = .ok (.getfield 74, 3) := by decide +kernel
theorem dX5_isNode_11 : decode cX5_isNode 11 = .ok (.if_icmp .ge 31, 3) := by decide +kernel
theorem dX5_isNode_14 : decode cX5_isNode 14 = .ok (.iload_n 3, 1) := by decide +kernel
theorem dX5_isNode_15 : decode cX5_isNode 15 = .ok (.ifCond .ne 15, 3) := by decide +kernel
theorem dX5_isNode_18 : decode cX5_isNode 18 = .ok (.aload_n 0, 1) := by decide +kernel
theorem dX5_isNode_19 : decode cX5_isNode 19 = .ok (.getfield 24, 3) := by decide +kernel
theorem dX5_isNode_22 : decode cX5_isNode 22 = .ok (.iload 4, 2) := by decide +kernel
theorem dX5_isNode_24 : decode cX5_isNode 24 = .ok (.laload, 1) := by decide +kernel
theorem dX5_isNode_25 : decode cX5_isNode 25 = .ok (.lload_n 1, 1) := by decide +kernel
theorem dX5_isNode_26 : decode cX5_isNode 26 = .ok (.lcmp, 1) := by decide +kernel
theorem dX5_isNode_27 : decode cX5_isNode 27 = .ok (.ifCond .ne 7, 3) := by decide +kernel
theorem dX5_isNode_30 : decode cX5_isNode 30 = .ok (.iconst 1, 1) := by decide +kernel
theorem dX5_isNode_31 : decode cX5_isNode 31 = .ok (.goto 4, 3) := by decide +kernel
theorem dX5_isNode_34 : decode cX5_isNode 34 = .ok (.iconst 0, 1) := by decide +kernel
theorem dX5_isNode_35 : decode cX5_isNode 35 = .ok (.istore_n 3, 1) := by decide +kernel
theorem dX5_isNode_36 : decode cX5_isNode 36 = .ok (.iinc 4 1, 3) := by decide +kernel
theorem dX5_isNode_39 : decode cX5_isNode 39 = .ok (.goto (-34), 3) := by decide +kernel
theorem dX5_isNode_42 : decode cX5_isNode 42 = .ok (.iload_n 3, 1) := by decide +kernel
theorem dX5_isNode_43 : decode cX5_isNode 43 = .ok (.ireturn, 1) := by decide +kernel
set_option maxRecDepth 20000 in
theorem ggX5_containerSize_X5_size : GoodIn wsX5_containerSize wsX5_size := goodIn_r _ [4, 5, 6, 3, 7, 8, 9, 10, 11] (by decide +kernel) (by decide +kernel)
set_option maxRecDepth 20000 in
theorem gX5_containerSize_X5_size : GoodIn wsX5_containerSize (va_wsS RX5 59 yX5_size wsX5_size) := goodIn_app (goodIn_of _ (by decide +kernel)) ggX5_containerSize_X5_size
set_option maxRecDepth 20000 in
theorem ggX5_containerSize_X5_head : GoodIn wsX5_containerSize wsX5_head := goodIn_r _ [14, 9, 10, 3, 11, 8] (by decide +kernel) (by decide +kernel)
set_option maxRecDepth 20000 in
theorem gX5_containerSize_X5_head : GoodIn wsX5_containerSize (va_wsS RX5 63 yX5_head wsX5_head) := goodIn_app (goodIn_of _ (by decide +kernel)) ggX5_containerSize_X5_head
set_option maxRecDepth 20000 in
theorem ggX5_containerSize_X5_isNode : GoodIn wsX5_containerSize wsX5_isNode := goodIn_r _ [18, 19, 20, 21, 22, 23, 24, 25, 26, 27, 28, 29, 30, 31, 32, 33, 34, 35, 36] (by decide +kernel) (by decide +kernel)
set_option maxRecDepth 20000 in
theorem gX5_containerSize_X5_isNode : GoodIn wsX5_containerSize (wsV RX5 77 RX5 yX5_isNode wsX5_isNode) := goodIn_app (goodIn_of _ (by decide +kernel)) ggX5_containerSize_X5_isNode
theorem dX5_containerSize_0 : decode cX5_containerSize 0 = .ok (.iconst 0, 1) := by decide +kernel
theorem dX5_containerSize_1 : decode cX5_containerSize 1 = .ok (.istore_n 3, 1) := by decide +kernel
theorem dX5_containerSize_2 : decode cX5_containerSize 2 = .ok (.iload_n 3, 1) := by decide +kernel
theorem dX5_containerSize_3 : decode cX5_containerSize 3 = .ok (.lload_n 1, 1) := by decide +kernel
theorem dX5_containerSize_4 : decode cX5_containerSize 4 = .ok (.invokestatic 59, 3) := by decide +kernel
theorem dX5_containerSize_7 : decode cX5_containerSize 7 = .ok (.if_icmp .gt 23, 3) := by decide +kernel
theorem dX5_containerSize_10 : decode cX5_containerSize 10 = .ok (.aload_n 0, 1) := by decide +kernel
theorem dX5_containerSize_11 : decode cX5_containerSize 11 = .ok (.lload_n 1, 1) := by decide +kernel
theorem dX5_containerSize_12 : decode cX5_containerSize 12 = .ok (.iload_n 3, 1) := by decide +kernel
theorem dX5_containerSize_13 : decode cX5_containerSize 13 = .ok (.invokestatic 63, 3) := by decide +kernel
theorem dX5_containerSize_16 : decode cX5_containerSize 16 = .ok (.invokevirtual 77, 3) := by decide +kernel
theorem dX5_containerSize_19 : decode cX5_containerSize 19 = .ok (.ifCond .ne 5, 3) := by decide +kernel
theorem dX5_containerSize_22 : decode cX5_containerSize 22 = .ok (.iload_n 3, 1) := by decide +kernel
theorem dX5_containerSize_23 : decode cX5_containerSize 23 = .ok (.ireturn, 1) := by decide +kernel
theorem dX5_containerSize_24 : decode cX5_containerSize 24 = .ok (.iinc 3 1, 3) := by decide +kernel
theorem dX5_containerSize_27 : decode cX5_containerSize 27 = .ok (.goto (-25), 3) := by decide +kernel
theorem dX5_containerSize_30 : decode cX5_containerSize 30 = .ok (.iconst (-1), 1) := by decide +kernel
theorem dX5_containerSize_31 : decode cX5_containerSize 31 = .ok (.ireturn, 1) := by decide +kernel
set_option maxRecDepth 20000 in
theorem ggX5_depthOf_X5_size : GoodIn wsX5_depthOf wsX5_size := goodIn_r _ [4, 5, 6, 3, 7, 8, 9, 10, 11] (by decide +kernel) (by decide +kernel)
set_option maxRecDepth 20000 in
theorem gX5_depthOf_X5_size : GoodIn wsX5_depthOf (va_wsS RX5 59 yX5_size wsX5_size) := goodIn_app (goodIn_of _ (by decide +kernel)) ggX5_depthOf_X5_size
set_option maxRecDepth 20000 in
theorem ggX5_depthOf_X5_head : GoodIn wsX5_depthOf wsX5_head := goodIn_r _ [14, 9, 10, 3, 11, 8] (by decide +kernel) (by decide +kernel)
set_option maxRecDepth 20000 in
theorem gX5_depthOf_X5_head : GoodIn wsX5_depthOf (va_wsS RX5 63 yX5_head wsX5_head) := goodIn_app (goodIn_of _ (by decide +kernel)) ggX5_depthOf_X5_head
set_option maxRecDepth 20000 in
theorem ggX5_depthOf_X5_isNode : GoodIn wsX5_depthOf wsX5_isNode := goodIn_r _ [18, 19, 20, 21, 22, 23, 24, 25, 26, 27, 28, 29, 30, 31, 32, 33, 34, 35, 36] (by decide +kernel) (by decide +kernel)
set_option maxRecDepth 20000 in
theorem gX5_depthOf_X5_isNode : GoodIn wsX5_depthOf (wsV RX5 77 RX5 yX5_isNode wsX5_isNode) := goodIn_app (goodIn_of _ (by decide +kernel)) ggX5_depthOf_X5_isNode
theorem dX5_depthOf_0 : decode cX5_depthOf 0 = .ok (.iconst 0, 1) := by decide +kernel
theorem dX5_depthOf_1 : decode cX5_depthOf 1 = .ok (.istore_n 3, 1) := by decide +kernel
theorem dX5_depthOf_2 : decode cX5_depthOf 2 = .ok (.iconst 0, 1) := by decide +kernel
theorem dX5_depthOf_3 : decode cX5_depthOf 3 = .ok (.istore 4, 2) := by decide +kernel
theorem dX5_depthOf_5 : decode cX5_depthOf 5 = .ok (.iload 4, 2) := by decide +kernel
theorem dX5_depthOf_7 : decode cX5_depthOf 7 = .ok (.lload_n 1, 1) := by decide +kernel
theorem dX5_depthOf_8 : decode cX5_depthOf 8 = .ok (.invokestatic 59, 3) := by decide +kernel
theorem dX5_depthOf_11 : decode cX5_depthOf 11 = .ok (.if_icmp .gt 30, 3) := by decide +kernel
theorem dX5_depthOf_14 : decode cX5_depthOf 14 = .ok (.iload_n 3, 1) := by decide +kernel
theorem dX5_depthOf_15 : decode cX5_depthOf 15 = .ok (.aload_n 0, 1) := by decide +kernel
theorem dX5_depthOf_16 : decode cX5_depthOf 16 = .ok (.lload_n 1, 1) := by decide +kernel
theorem dX5_depthOf_17 : decode cX5_depthOf 17 = .ok (.iload 4, 2) := by decide +kernel
theorem dX5_depthOf_19 : decode cX5_depthOf 19 = .ok (.invokestatic 63, 3) := by decide +kernel
theorem dX5_depthOf_22 : decode cX5_depthOf 22 = .ok (.invokevirtual 77, 3) := by decide +kernel
theorem dX5_depthOf_25 : decode cX5_depthOf 25 = .ok (.ifCond .eq 7, 3) := by decide +kernel
theorem dX5_depthOf_28 : decode cX5_depthOf 28 = .ok (.iconst 1, 1) := by decide +kernel
theorem dX5_depthOf_29 : decode cX5_depthOf 29 = .ok (.goto 4, 3) := by decide +kernel
theorem dX5_depthOf_32 : decode cX5_depthOf 32 = .ok (.iconst 0, 1) := by decide +kernel
theorem dX5_depthOf_33 : decode cX5_depthOf 33 = .ok (.iadd, 1) := by decide +kernel
theorem dX5_depthOf_34 : decode cX5_depthOf 34 = .ok (.istore_n 3, 1) := by decide +kernel
theorem dX5_depthOf_35 : decode cX5_depthOf 35 = .ok (.iinc 4 1, 3) := by decide +kernel
theorem dX5_depthOf_38 : decode cX5_depthOf 38 = .ok (.goto (-33), 3) := by decide +kernel
theorem dX5_depthOf_41 : decode cX5_depthOf 41 = .ok (.iload_n 3, 1) := by decide +kernel
theorem dX5_depthOf_42 : decode cX5_depthOf 42 = .ok (.ireturn, 1) := by decide +kernel
set_option maxRecDepth 20000 in
theorem ggX5_type_X5_in : GoodIn wsX5_type wsX5_in := goodIn_r _ [7] (by decide +kernel) (by decide +kernel)
set_option maxRecDepth 20000 in
theorem gX5_type_X5_in : GoodIn wsX5_type (va_wsS RX5 81 yX5_in wsX5_in) := goodIn_app (goodIn_of _ (by decide +kernel)) ggX5_type_X5_in
theorem dX5_type_0 : decode cX5_type 0 = .ok (.aload_n 0, 1) := by decide +kernel
theorem dX5_type_1 : decode cX5_type 1 = .ok (.iconst 0, 1) := by decide +kernel
theorem dX5_type_2 : decode cX5_type 2 = .ok (.putfield 43, 3) := by decide +kernel
theorem dX5_type_5 : decode cX5_type 5 = .ok (.iload_n 1, 1) := by decide +kernel
theorem dX5_type_6 : decode cX5_type 6 = .ok (.bipush 97, 2) := by decide +kernel
theorem dX5_type_8 : decode cX5_type 8 = .ok (.bipush 122, 2) := by decide +kernel
theorem dX5_type_10 : decode cX5_type 10 = .ok (.invokestatic 81, 3) := by decide +kernel
theorem dX5_type_13 : decode cX5_type 13 = .ok (.ifCond .ne 5, 3) := by decide +kernel
theorem dX5_type_16 : decode cX5_type 16 = .ok (.iconst (-1), 1) := by decide +kernel
theorem dX5_type_17 : decode cX5_type 17 = .ok (.ireturn, 1) := by decide +kernel
theorem dX5_type_18 : decode cX5_type 18 = .ok (.aload_n 0, 1) := by decide +kernel
theorem dX5_type_19 : decode cX5_type 19 = .ok (.getfield 56, 3) := by decide +kernel
theorem dX5_type_22 : decode cX5_type 22 = .ok (.bipush 7, 2) := by decide +kernel
theorem dX5_type_24 : decode cX5_type 24 = .ok (.if_icmp .ne 6, 3) := by decide +kernel
theorem dX5_type_27 : decode cX5_type 27 = .ok (.bipush (-3), 2) := by decide +kernel
theorem dX5_type_29 : decode cX5_type 29 = .ok (.ireturn, 1) := by decide +kernel
theorem dX5_type_30 : decode cX5_type 30 = .ok (.aload_n 0, 1) := by decide +kernel
theorem dX5_type_31 : decode cX5_type 31 = .ok (.getfield 7, 3) := by decide +kernel
theorem dX5_type_34 : decode cX5_type 34 = .ok (.aload_n 0, 1) := by decide +kernel
theorem dX5_type_35 : decode cX5_type 35 = .ok (.getfield 56, 3) := by decide +kernel
theorem dX5_type_38 : decode cX5_type 38 = .ok (.iload_n 1, 1) := by decide +kernel
theorem dX5_type_39 : decode cX5_type 39 = .ok (.bipush 97, 2) := by decide +kernel
theorem dX5_type_41 : decode cX5_type 41 = .ok (.isub, 1) := by decide +kernel
theorem dX5_type_42 : decode cX5_type 42 = .ok (.iconst 1, 1) := by decide +kernel
theorem dX5_type_43 : decode cX5_type 43 = .ok (.iadd, 1) := by decide +kernel
theorem dX5_type_44 : decode cX5_type 44 = .ok (.iastore, 1) := by decide +kernel
theorem dX5_type_45 : decode cX5_type 45 = .ok (.aload_n 0, 1) := by decide +kernel
theorem dX5_type_46 : decode cX5_type 46 = .ok (.dup, 1) := by decide +kernel
theorem dX5_type_47 : decode cX5_type 47 = .ok (.getfield 56, 3) := by decide +kernel
theorem dX5_type_50 : decode cX5_type 50 = .ok (.iconst 1, 1) := by decide +kernel
theorem dX5_type_51 : decode cX5_type 51 = .ok (.iadd, 1) := by decide +kernel
theorem dX5_type_52 : decode cX5_type 52 = .ok (.putfield 56, 3) := by decide +kernel
theorem dX5_type_55 : decode cX5_type 55 = .ok (.aload_n 0, 1) := by decide +kernel
theorem dX5_type_56 : decode cX5_type 56 = .ok (.getfield 56, 3) := by decide +kernel
theorem dX5_type_59 : decode cX5_type 59 = .ok (.ireturn, 1) := by decide +kernel
theorem dX5_clear_0 : decode cX5_clear 0 = .ok (.aload_n 0, 1) := by decide +kernel
theorem dX5_clear_1 : decode cX5_clear 1 = .ok (.iconst 0, 1) := by decide +kernel
theorem dX5_clear_2 : decode cX5_clear 2 = .ok (.putfield 43, 3) := by decide +kernel
theorem dX5_clear_5 : decode cX5_clear 5 = .ok (.aload_n 0, 1) := by decide +kernel
theorem dX5_clear_6 : decode cX5_clear 6 = .ok (.getfield 56, 3) := by decide +kernel
theorem dX5_clear_9 : decode cX5_clear 9 = .ok (.istore_n 1, 1) := by decide +kernel
theorem dX5_clear_10 : decode cX5_clear 10 = .ok (.aload_n 0, 1) := by decide +kernel
theorem dX5_clear_11 : decode cX5_clear 11 = .ok (.iconst 0, 1) := by decide +kernel
theorem dX5_clear_12 : decode cX5_clear 12 = .ok (.putfield 56, 3) := by decide +kernel
theorem dX5_clear_15 : decode cX5_clear 15 = .ok (.iload_n 1, 1) := by decide +kernel
theorem dX5_clear_16 : decode cX5_clear 16 = .ok (.ireturn, 1) := by decide +kernel
set_option maxRecDepth 20000 in
theorem ggX5_bounds_X5_in : GoodIn wsX5_bounds wsX5_in := goodIn_r _ [8] (by decide +kernel) (by decide +kernel)
set_option maxRecDepth 20000 in
theorem gX5_bounds_X5_in : GoodIn wsX5_bounds (va_wsS RX5 81 yX5_in wsX5_in) := goodIn_app (goodIn_of _ (by decide +kernel)) ggX5_bounds_X5_in
theorem dX5_bounds_0 : decode cX5_bounds 0 = .ok (.aload_n 0, 1) := by decide +kernel
theorem dX5_bounds_1 : decode cX5_bounds 1 = .ok (.iconst 0, 1) := by decide +kernel
theorem dX5_bounds_2 : decode cX5_bounds 2 = .ok (.putfield 43, 3) := by decide +kernel
theorem dX5_bounds_5 : decode cX5_bounds 5 = .ok (.iload_n 1, 1) := by decide +kernel
theorem dX5_bounds_6 : decode cX5_bounds 6 = .ok (.iconst 2, 1) := by decide +kernel
theorem dX5_bounds_7 : decode cX5_bounds 7 = .ok (.bipush 8, 2) := by decide +kernel
theorem dX5_bounds_9 : decode cX5_bounds 9 = .ok (.invokestatic 81, 3) := by decide +kernel
theorem dX5_bounds_12 : decode cX5_bounds 12 = .ok (.ifCond .ne 5, 3) := by decide +kernel
theorem dX5_bounds_15 : decode cX5_bounds 15 = .ok (.iconst (-1), 1) := by decide +kernel
theorem dX5_bounds_16 : decode cX5_bounds 16 = .ok (.ireturn, 1) := by decide +kernel
theorem dX5_bounds_17 : decode cX5_bounds 17 = .ok (.aload_n 0, 1) := by decide +kernel
theorem dX5_bounds_18 : decode cX5_bounds 18 = .ok (.getfield 67, 3) := by decide +kernel
theorem dX5_bounds_21 : decode cX5_bounds 21 = .ok (.ifCond .le 6, 3) := by decide +kernel
theorem dX5_bounds_24 : decode cX5_bounds 24 = .ok (.bipush (-2), 2) := by decide +kernel
theorem dX5_bounds_26 : decode cX5_bounds 26 = .ok (.ireturn, 1) := by decide +kernel
theorem dX5_bounds_27 : decode cX5_bounds 27 = .ok (.aload_n 0, 1) := by decide +kernel
theorem dX5_bounds_28 : decode cX5_bounds 28 = .ok (.getfield 13, 3) := by decide +kernel
theorem dX5_bounds_31 : decode cX5_bounds 31 = .ok (.istore_n 2, 1) := by decide +kernel
theorem dX5_bounds_32 : decode cX5_bounds 32 = .ok (.aload_n 0, 1) := by decide +kernel
theorem dX5_bounds_33 : decode cX5_bounds 33 = .ok (.iload_n 1, 1) := by decide +kernel
theorem dX5_bounds_34 : decode cX5_bounds 34 = .ok (.putfield 13, 3) := by decide +kernel
theorem dX5_bounds_37 : decode cX5_bounds 37 = .ok (.aload_n 0, 1) := by decide +kernel
theorem dX5_bounds_38 : decode cX5_bounds 38 = .ok (.iconst 0, 1) := by decide +kernel
theorem dX5_bounds_39 : decode cX5_bounds 39 = .ok (.putfield 85, 3) := by decide +kernel
theorem dX5_bounds_42 : decode cX5_bounds 42 = .ok (.iload_n 2, 1) := by decide +kernel
theorem dX5_bounds_43 : decode cX5_bounds 43 = .ok (.ireturn, 1) := by decide +kernel
theorem dX5_notes_0 : decode cX5_notes 0 = .ok (.aload_n 0, 1) := by decide +kernel
theorem dX5_notes_1 : decode cX5_notes 1 = .ok (.getfield 85, 3) := by decide +kernel
theorem dX5_notes_4 : decode cX5_notes 4 = .ok (.bipush 12, 2) := by decide +kernel
theorem dX5_notes_6 : decode cX5_notes 6 = .ok (.if_icmp .ne 40, 3) := by decide +kernel
theorem dX5_notes_9 : decode cX5_notes 9 = .ok (.iconst 0, 1) := by decide +kernel
theorem dX5_notes_10 : decode cX5_notes 10 = .ok (.istore_n 1, 1) := by decide +kernel
theorem dX5_notes_11 : decode cX5_notes 11 = .ok (.iload_n 1, 1) := by decide +kernel
theorem dX5_notes_12 : decode cX5_notes 12 = .ok (.sipush 3102, 3) := by decide +kernel
theorem dX5_notes_15 : decode cX5_notes 15 = .ok (.if_icmp .ge 25, 3) := by decide +kernel
theorem dX5_notes_18 : decode cX5_notes 18 = .ok (.aload_n 0, 1) := by decide +kernel
theorem dX5_notes_19 : decode cX5_notes 19 = .ok (.getfield 27, 3) := by decide +kernel
theorem dX5_notes_22 : decode cX5_notes 22 = .ok (.iload_n 1, 1) := by decide +kernel
theorem dX5_notes_23 : decode cX5_notes 23 = .ok (.aload_n 0, 1) := by decide +kernel
theorem dX5_notes_24 : decode cX5_notes 24 = .ok (.getfield 27, 3) := by decide +kernel
theorem dX5_notes_27 : decode cX5_notes 27 = .ok (.iload_n 1, 1) := by decide +kernel
theorem dX5_notes_28 : decode cX5_notes 28 = .ok (.sipush 282, 3) := by decide +kernel
theorem dX5_notes_31 : decode cX5_notes 31 = .ok (.iadd, 1) := by decide +kernel
theorem dX5_notes_32 : decode cX5_notes 32 = .ok (.laload, 1) := by decide +kernel
theorem dX5_notes_33 : decode cX5_notes 33 = .ok (.lastore, 1) := by decide +kernel
theorem dX5_notes_34 : decode cX5_notes 34 = .ok (.iinc 1 1, 3) := by decide +kernel
theorem dX5_notes_37 : decode cX5_notes 37 = .ok (.goto (-26), 3) := by decide +kernel
theorem dX5_notes_40 : decode cX5_notes 40 = .ok (.aload_n 0, 1) := by decide +kernel
theorem dX5_notes_41 : decode cX5_notes 41 = .ok (.bipush 11, 2) := by decide +kernel
theorem dX5_notes_43 : decode cX5_notes 43 = .ok (.putfield 85, 3) := by decide +kernel
theorem dX5_notes_46 : decode cX5_notes 46 = .ok (.sipush 282, 3) := by decide +kernel
theorem dX5_notes_49 : decode cX5_notes 49 = .ok (.aload_n 0, 1) := by decide +kernel
theorem dX5_notes_50 : decode cX5_notes 50 = .ok (.getfield 85, 3) := by decide +kernel
theorem dX5_notes_53 : decode cX5_notes 53 = .ok (.imul, 1) := by decide +kernel
theorem dX5_notes_54 : decode cX5_notes 54 = .ok (.istore_n 1, 1) := by decide +kernel
theorem dX5_notes_55 : decode cX5_notes 55 = .ok (.aload_n 0, 1) := by decide +kernel
theorem dX5_notes_56 : decode cX5_notes 56 = .ok (.getfield 27, 3) := by decide +kernel
theorem dX5_notes_59 : decode cX5_notes 59 = .ok (.iload_n 1, 1) := by decide +kernel
theorem dX5_notes_60 : decode cX5_notes 60 = .ok (.aload_n 0, 1) := by decide +kernel
theorem dX5_notes_61 : decode cX5_notes 61 = .ok (.getfield 67, 3) := by decide +kernel
theorem dX5_notes_64 : decode cX5_notes 64 = .ok (.i2l, 1) := by decide +kernel
theorem dX5_notes_65 : decode cX5_notes 65 = .ok (.lastore, 1) := by decide +kernel
theorem dX5_notes_66 : decode cX5_notes 66 = .ok (.aload_n 0, 1) := by decide +kernel
theorem dX5_notes_67 : decode cX5_notes 67 = .ok (.getfield 27, 3) := by decide +kernel
theorem dX5_notes_70 : decode cX5_notes 70 = .ok (.iload_n 1, 1) := by decide +kernel
theorem dX5_notes_71 : decode cX5_notes 71 = .ok (.iconst 1, 1) := by decide +kernel
theorem dX5_notes_72 : decode cX5_notes 72 = .ok (.iadd, 1) := by decide +kernel
theorem dX5_notes_73 : decode cX5_notes 73 = .ok (.aload_n 0, 1) := by decide +kernel
theorem dX5_notes_74 : decode cX5_notes 74 = .ok (.getfield 74, 3) := by decide +kernel
theorem dX5_notes_77 : decode cX5_notes 77 = .ok (.i2l, 1) := by decide +kernel
theorem dX5_notes_78 : decode cX5_notes 78 = .ok (.lastore, 1) := by decide +kernel
theorem dX5_notes_79 : decode cX5_notes 79 = .ok (.iconst 0, 1) := by decide +kernel
theorem dX5_notes_80 : decode cX5_notes 80 = .ok (.istore_n 2, 1) := by decide +kernel
theorem dX5_notes_81 : decode cX5_notes 81 = .ok (.iload_n 2, 1) := by decide +kernel
theorem dX5_notes_82 : decode cX5_notes 82 = .ok (.bipush 40, 2) := by decide +kernel
theorem dX5_notes_84 : decode cX5_notes 84 = .ok (.if_icmp .ge 43, 3) := by decide +kernel
theorem dX5_notes_87 : decode cX5_notes 87 = .ok (.aload_n 0, 1) := by decide +kernel
theorem dX5_notes_88 : decode cX5_notes 88 = .ok (.getfield 27, 3) := by decide +kernel
theorem dX5_notes_91 : decode cX5_notes 91 = .ok (.iload_n 1, 1) := by decide +kernel
theorem dX5_notes_92 : decode cX5_notes 92 = .ok (.iconst 2, 1) := by decide +kernel
theorem dX5_notes_93 : decode cX5_notes 93 = .ok (.iadd, 1) := by decide +kernel
theorem dX5_notes_94 : decode cX5_notes 94 = .ok (.iload_n 2, 1) := by decide +kernel
theorem dX5_notes_95 : decode cX5_notes 95 = .ok (.iadd, 1) := by decide +kernel
theorem dX5_notes_96 : decode cX5_notes 96 = .ok (.aload_n 0, 1) := by decide +kernel
theorem dX5_notes_97 : decode cX5_notes 97 = .ok (.getfield 17, 3) := by decide +kernel
theorem dX5_notes_100 : decode cX5_notes 100 = .ok (.iload_n 2, 1) := by decide +kernel
theorem dX5_notes_101 : decode cX5_notes 101 = .ok (.laload, 1) := by decide +kernel
theorem dX5_notes_102 : decode cX5_notes 102 = .ok (.lastore, 1) := by decide +kernel
theorem dX5_notes_103 : decode cX5_notes 103 = .ok (.aload_n 0, 1) := by decide +kernel
theorem dX5_notes_104 : decode cX5_notes 104 = .ok (.getfield 27, 3) := by decide +kernel
theorem dX5_notes_107 : decode cX5_notes 107 = .ok (.iload_n 1, 1) := by decide +kernel
theorem dX5_notes_108 : decode cX5_notes 108 = .ok (.bipush 42, 2) := by decide +kernel
theorem dX5_notes_110 : decode cX5_notes 110 = .ok (.iadd, 1) := by decide +kernel
theorem dX5_notes_111 : decode cX5_notes 111 = .ok (.iload_n 2, 1) := by decide +kernel
theorem dX5_notes_112 : decode cX5_notes 112 = .ok (.iadd, 1) := by decide +kernel
theorem dX5_notes_113 : decode cX5_notes 113 = .ok (.aload_n 0, 1) := by decide +kernel
theorem dX5_notes_114 : decode cX5_notes 114 = .ok (.getfield 21, 3) := by decide +kernel
theorem dX5_notes_117 : decode cX5_notes 117 = .ok (.iload_n 2, 1) := by decide +kernel
theorem dX5_notes_118 : decode cX5_notes 118 = .ok (.iaload, 1) := by decide +kernel
theorem dX5_notes_119 : decode cX5_notes 119 = .ok (.i2l, 1) := by decide +kernel
theorem dX5_notes_120 : decode cX5_notes 120 = .ok (.lastore, 1) := by decide +kernel
theorem dX5_notes_121 : decode cX5_notes 121 = .ok (.iinc 2 1, 3) := by decide +kernel
theorem dX5_notes_124 : decode cX5_notes 124 = .ok (.goto (-43), 3) := by decide +kernel
theorem dX5_notes_127 : decode cX5_notes 127 = .ok (.iconst 0, 1) := by decide +kernel
theorem dX5_notes_128 : decode cX5_notes 128 = .ok (.istore_n 2, 1) := by decide +kernel
theorem dX5_notes_129 : decode cX5_notes 129 = .ok (.iload_n 2, 1) := by decide +kernel
theorem dX5_notes_130 : decode cX5_notes 130 = .ok (.sipush 200, 3) := by decide +kernel
theorem dX5_notes_133 : decode cX5_notes 133 = .ok (.if_icmp .ge 26, 3) := by decide +kernel
theorem dX5_notes_136 : decode cX5_notes 136 = .ok (.aload_n 0, 1) := by decide +kernel
theorem dX5_notes_137 : decode cX5_notes 137 = .ok (.getfield 27, 3) := by decide +kernel
theorem dX5_notes_140 : decode cX5_notes 140 = .ok (.iload_n 1, 1) := by decide +kernel
theorem dX5_notes_141 : decode cX5_notes 141 = .ok (.bipush 82, 2) := by decide +kernel
theorem dX5_notes_143 : decode cX5_notes 143 = .ok (.iadd, 1) := by decide +kernel
theorem dX5_notes_144 : decode cX5_notes 144 = .ok (.iload_n 2, 1) := by decide +kernel
theorem dX5_notes_145 : decode cX5_notes 145 = .ok (.iadd, 1) := by decide +kernel
theorem dX5_notes_146 : decode cX5_notes 146 = .ok (.aload_n 0, 1) := by decide +kernel
theorem dX5_notes_147 : decode cX5_notes 147 = .ok (.getfield 24, 3) := by decide +kernel
theorem dX5_notes_150 : decode cX5_notes 150 = .ok (.iload_n 2, 1) := by decide +kernel
theorem dX5_notes_151 : decode cX5_notes 151 = .ok (.laload, 1) := by decide +kernel
theorem dX5_notes_152 : decode cX5_notes 152 = .ok (.lastore, 1) := by decide +kernel
theorem dX5_notes_153 : decode cX5_notes 153 = .ok (.iinc 2 1, 3) := by decide +kernel
theorem dX5_notes_156 : decode cX5_notes 156 = .ok (.goto (-27), 3) := by decide +kernel
theorem dX5_notes_159 : decode cX5_notes 159 = .ok (.aload_n 0, 1) := by decide +kernel
theorem dX5_notes_160 : decode cX5_notes 160 = .ok (.dup, 1) := by decide +kernel
theorem dX5_notes_161 : decode cX5_notes 161 = .ok (.getfield 85, 3) := by decide +kernel
theorem dX5_notes_164 : decode cX5_notes 164 = .ok (.iconst 1, 1) := by decide +kernel
theorem dX5_notes_165 : decode cX5_notes 165 = .ok (.iadd, 1) := by decide +kernel
theorem dX5_notes_166 : decode cX5_notes 166 = .ok (.putfield 85, 3) := by decide +kernel
theorem dX5_notes_169 : decode cX5_notes 169 = .ok (.return_, 1) := by decide +kernel
set_option maxRecDepth 20000 in
theorem ggX5_bursts_X5_containerSize : GoodIn wsX5_bursts wsX5_containerSize := goodIn_r _ [8, 9, 10, 7, 11, 12, 13, 14, 15, 16, 17, 18, 19, 20, 21, 22, 23, 24, 25, 3, 2, 35, 36, 37, 38, 39, 40, 41, 42, 43, 44, 45, 46, 47, 48, 49, 50] (by decide +kernel) (by decide +kernel)
set_option maxRecDepth 20000 in
theorem gX5_bursts_X5_containerSize : GoodIn wsX5_bursts (wsV RX5 88 RX5 yX5_containerSize wsX5_containerSize) := goodIn_app (goodIn_of _ (by decide +kernel)) ggX5_bursts_X5_containerSize
set_option maxRecDepth 20000 in
theorem ggX5_bursts_X5_head : GoodIn wsX5_bursts wsX5_head := goodIn_r _ [21, 16, 17, 7, 18, 15] (by decide +kernel) (by decide +kernel)
set_option maxRecDepth 20000 in
theorem gX5_bursts_X5_head : GoodIn wsX5_bursts (va_wsS RX5 63 yX5_head wsX5_head) := goodIn_app (goodIn_of _ (by decide +kernel)) ggX5_bursts_X5_head
set_option maxRecDepth 20000 in
theorem ggX5_bursts_X5_beginning : GoodIn wsX5_bursts wsX5_beginning := goodIn_r _ [29, 30, 31, 32, 33, 7, 34, 9, 10, 11, 12, 13, 14, 15, 16, 17, 18, 19, 20, 21, 35, 36, 37, 38, 39, 40, 41, 42, 43, 44, 45, 46, 47, 48, 49, 50] (by decide +kernel) (by decide +kernel)
set_option maxRecDepth 20000 in
theorem gX5_bursts_X5_beginning : GoodIn wsX5_bursts (wsV RX5 91 RX5 yX5_beginning wsX5_beginning) := goodIn_app (goodIn_of _ (by decide +kernel)) ggX5_bursts_X5_beginning
theorem dX5_bursts_0 : decode cX5_bursts 0 = .ok (.aload_n 0, 1) := by decide +kernel
theorem dX5_bursts_1 : decode cX5_bursts 1 = .ok (.lload_n 1, 1) := by decide +kernel
theorem dX5_bursts_2 : decode cX5_bursts 2 = .ok (.invokevirtual 88, 3) := by decide +kernel
theorem dX5_bursts_5 : decode cX5_bursts 5 = .ok (.istore_n 3, 1) := by decide +kernel
theorem dX5_bursts_6 : decode cX5_bursts 6 = .ok (.iload_n 3, 1) := by decide +kernel
theorem dX5_bursts_7 : decode cX5_bursts 7 = .ok (.ifCond .lt 52, 3) := by decide +kernel
theorem dX5_bursts_10 : decode cX5_bursts 10 = .ok (.aload_n 0, 1) := by decide +kernel
theorem dX5_bursts_11 : decode cX5_bursts 11 = .ok (.lload_n 1, 1) := by decide +kernel
theorem dX5_bursts_12 : decode cX5_bursts 12 = .ok (.iload_n 3, 1) := by decide +kernel
theorem dX5_bursts_13 : decode cX5_bursts 13 = .ok (.invokestatic 63, 3) := by decide +kernel
theorem dX5_bursts_16 : decode cX5_bursts 16 = .ok (.invokevirtual 91, 3) := by decide +kernel
theorem dX5_bursts_19 : decode cX5_bursts 19 = .ok (.aload_n 0, 1) := by decide +kernel
theorem dX5_bursts_20 : decode cX5_bursts 20 = .ok (.getfield 13, 3) := by decide +kernel
theorem dX5_bursts_23 : decode cX5_bursts 23 = .ok (.if_icmp .le 36, 3) := by decide +kernel
theorem dX5_bursts_26 : decode cX5_bursts 26 = .ok (.aload_n 0, 1) := by decide +kernel
theorem dX5_bursts_27 : decode cX5_bursts 27 = .ok (.getfield 24, 3) := by decide +kernel
theorem dX5_bursts_30 : decode cX5_bursts 30 = .ok (.aload_n 0, 1) := by decide +kernel
theorem dX5_bursts_31 : decode cX5_bursts 31 = .ok (.getfield 74, 3) := by decide +kernel
theorem dX5_bursts_34 : decode cX5_bursts 34 = .ok (.lload_n 1, 1) := by decide +kernel
theorem dX5_bursts_35 : decode cX5_bursts 35 = .ok (.iload_n 3, 1) := by decide +kernel
theorem dX5_bursts_36 : decode cX5_bursts 36 = .ok (.invokestatic 63, 3) := by decide +kernel
theorem dX5_bursts_39 : decode cX5_bursts 39 = .ok (.lastore, 1) := by decide +kernel
theorem dX5_bursts_40 : decode cX5_bursts 40 = .ok (.aload_n 0, 1) := by decide +kernel
theorem dX5_bursts_41 : decode cX5_bursts 41 = .ok (.dup, 1) := by decide +kernel
theorem dX5_bursts_42 : decode cX5_bursts 42 = .ok (.getfield 74, 3) := by decide +kernel
theorem dX5_bursts_45 : decode cX5_bursts 45 = .ok (.iconst 1, 1) := by decide +kernel
theorem dX5_bursts_46 : decode cX5_bursts 46 = .ok (.iadd, 1) := by decide +kernel
theorem dX5_bursts_47 : decode cX5_bursts 47 = .ok (.putfield 74, 3) := by decide +kernel
theorem dX5_bursts_50 : decode cX5_bursts 50 = .ok (.aload_n 0, 1) := by decide +kernel
theorem dX5_bursts_51 : decode cX5_bursts 51 = .ok (.lload_n 1, 1) := by decide +kernel
theorem dX5_bursts_52 : decode cX5_bursts 52 = .ok (.invokevirtual 88, 3) := by decide +kernel
theorem dX5_bursts_55 : decode cX5_bursts 55 = .ok (.istore_n 3, 1) := by decide +kernel
theorem dX5_bursts_56 : decode cX5_bursts 56 = .ok (.goto (-50), 3) := by decide +kernel
theorem dX5_bursts_59 : decode cX5_bursts 59 = .ok (.return_, 1) := by decide +kernel
set_option maxRecDepth 20000 in
theorem ggX5_adds_X5_own : GoodIn wsX5_adds wsX5_own := goodIn_r _ [10, 11, 2, 12, 57, 58, 59, 60, 61, 62, 63, 64, 65, 66, 67, 68, 69, 70, 71, 72] (by decide +kernel) (by decide +kernel)
set_option maxRecDepth 20000 in
theorem gX5_adds_X5_own : GoodIn wsX5_adds (wsV RX5 94 RX5 yX5_own wsX5_own) := goodIn_app (goodIn_of _ (by decide +kernel)) ggX5_adds_X5_own
set_option maxRecDepth 20000 in
theorem ggX5_adds_X5_placeOf : GoodIn wsX5_adds wsX5_placeOf := goodIn_r _ [16, 3, 5, 57, 58, 59, 60, 61, 62, 63, 64, 65, 66, 67, 68, 69, 70, 71, 72] (by decide +kernel) (by decide +kernel)
set_option maxRecDepth 20000 in
theorem gX5_adds_X5_placeOf : GoodIn wsX5_adds (wsV RX5 98 RX5 yX5_placeOf wsX5_placeOf) := goodIn_app (goodIn_of _ (by decide +kernel)) ggX5_adds_X5_placeOf
set_option maxRecDepth 20000 in
theorem ggX5_adds_X5_notes : GoodIn wsX5_adds wsX5_notes := goodIn_r _ [20, 21, 22, 3, 23, 5, 4, 24, 57, 58, 59, 60, 61, 62, 63, 64, 65, 66, 67, 68, 69, 70, 71, 72] (by decide +kernel) (by decide +kernel)
set_option maxRecDepth 20000 in
theorem gX5_adds_X5_notes : GoodIn wsX5_adds (wsV RX5 101 RX5 yX5_notes wsX5_notes) := goodIn_app (goodIn_of _ (by decide +kernel)) ggX5_adds_X5_notes
set_option maxRecDepth 20000 in
theorem ggX5_adds_X5_bursts : GoodIn wsX5_adds wsX5_bursts := goodIn_r _ [28, 29, 24, 23, 30, 31, 32, 9, 33, 34, 35, 36, 37, 38, 39, 11, 40, 41, 42, 43, 44, 45, 46, 47, 48, 49, 50, 51, 52, 53, 3, 5, 54, 55, 56, 57, 58, 59, 60, 61, 62, 63, 64, 65, 66, 67, 68, 69, 70, 71, 72] (by decide +kernel) (by decide +kernel)
set_option maxRecDepth 20000 in
theorem gX5_adds_X5_bursts : GoodIn wsX5_adds (wsV RX5 104 RX5 yX5_bursts wsX5_bursts) := goodIn_app (goodIn_of _ (by decide +kernel)) ggX5_adds_X5_bursts
theorem dX5_adds_0 : decode cX5_adds 0 = .ok (.aload_n 0, 1) := by decide +kernel
theorem dX5_adds_1 : decode cX5_adds 1 = .ok (.iconst 0, 1) := by decide +kernel
theorem dX5_adds_2 : decode cX5_adds 2 = .ok (.putfield 43, 3) := by decide +kernel
theorem dX5_adds_5 : decode cX5_adds 5 = .ok (.aload_n 0, 1) := by decide +kernel
theorem dX5_adds_6 : decode cX5_adds 6 = .ok (.invokevirtual 94, 3) := by decide +kernel
theorem dX5_adds_9 : decode cX5_adds 9 = .ok (.lstore_n 1, 1) := by decide +kernel
theorem dX5_adds_10 : decode cX5_adds 10 = .ok (.aload_n 0, 1) := by decide +kernel
theorem dX5_adds_11 : decode cX5_adds 11 = .ok (.lload_n 1, 1) := by decide +kernel
theorem dX5_adds_12 : decode cX5_adds 12 = .ok (.invokevirtual 98, 3) := by decide +kernel
theorem dX5_adds_15 : decode cX5_adds 15 = .ok (.istore_n 3, 1) := by decide +kernel
theorem dX5_adds_16 : decode cX5_adds 16 = .ok (.aload_n 0, 1) := by decide +kernel
theorem dX5_adds_17 : decode cX5_adds 17 = .ok (.getfield 56, 3) := by decide +kernel
theorem dX5_adds_20 : decode cX5_adds 20 = .ok (.ifCond .ne 5, 3) := by decide +kernel
theorem dX5_adds_23 : decode cX5_adds 23 = .ok (.iconst (-1), 1) := by decide +kernel
theorem dX5_adds_24 : decode cX5_adds 24 = .ok (.ireturn, 1) := by decide +kernel
theorem dX5_adds_25 : decode cX5_adds 25 = .ok (.iload_n 3, 1) := by decide +kernel
theorem dX5_adds_26 : decode cX5_adds 26 = .ok (.ifCond .ge 12, 3) := by decide +kernel
theorem dX5_adds_29 : decode cX5_adds 29 = .ok (.aload_n 0, 1) := by decide +kernel
theorem dX5_adds_30 : decode cX5_adds 30 = .ok (.getfield 67, 3) := by decide +kernel
theorem dX5_adds_33 : decode cX5_adds 33 = .ok (.bipush 40, 2) := by decide +kernel
theorem dX5_adds_35 : decode cX5_adds 35 = .ok (.if_icmp .eq 18, 3) := by decide +kernel
theorem dX5_adds_38 : decode cX5_adds 38 = .ok (.iload_n 3, 1) := by decide +kernel
theorem dX5_adds_39 : decode cX5_adds 39 = .ok (.ifCond .lt 17, 3) := by decide +kernel
theorem dX5_adds_42 : decode cX5_adds 42 = .ok (.aload_n 0, 1) := by decide +kernel
theorem dX5_adds_43 : decode cX5_adds 43 = .ok (.getfield 21, 3) := by decide +kernel
theorem dX5_adds_46 : decode cX5_adds 46 = .ok (.iload_n 3, 1) := by decide +kernel
theorem dX5_adds_47 : decode cX5_adds 47 = .ok (.iaload, 1) := by decide +kernel
theorem dX5_adds_48 : decode cX5_adds 48 = .ok (.bipush 99, 2) := by decide +kernel
theorem dX5_adds_50 : decode cX5_adds 50 = .ok (.if_icmp .ne 6, 3) := by decide +kernel
theorem dX5_adds_53 : decode cX5_adds 53 = .ok (.bipush (-3), 2) := by decide +kernel
theorem dX5_adds_55 : decode cX5_adds 55 = .ok (.ireturn, 1) := by decide +kernel
theorem dX5_adds_56 : decode cX5_adds 56 = .ok (.aload_n 0, 1) := by decide +kernel
theorem dX5_adds_57 : decode cX5_adds 57 = .ok (.invokevirtual 101, 3) := by decide +kernel
theorem dX5_adds_60 : decode cX5_adds 60 = .ok (.iload_n 3, 1) := by decide +kernel
theorem dX5_adds_61 : decode cX5_adds 61 = .ok (.ifCond .lt 20, 3) := by decide +kernel
theorem dX5_adds_64 : decode cX5_adds 64 = .ok (.aload_n 0, 1) := by decide +kernel
theorem dX5_adds_65 : decode cX5_adds 65 = .ok (.getfield 21, 3) := by decide +kernel
theorem dX5_adds_68 : decode cX5_adds 68 = .ok (.iload_n 3, 1) := by decide +kernel
theorem dX5_adds_69 : decode cX5_adds 69 = .ok (.dup2, 1) := by decide +kernel
theorem dX5_adds_70 : decode cX5_adds 70 = .ok (.iaload, 1) := by decide +kernel
theorem dX5_adds_71 : decode cX5_adds 71 = .ok (.iconst 1, 1) := by decide +kernel
theorem dX5_adds_72 : decode cX5_adds 72 = .ok (.iadd, 1) := by decide +kernel
theorem dX5_adds_73 : decode cX5_adds 73 = .ok (.iastore, 1) := by decide +kernel
theorem dX5_adds_74 : decode cX5_adds 74 = .ok (.aload_n 0, 1) := by decide +kernel
theorem dX5_adds_75 : decode cX5_adds 75 = .ok (.getfield 21, 3) := by decide +kernel
theorem dX5_adds_78 : decode cX5_adds 78 = .ok (.iload_n 3, 1) := by decide +kernel
theorem dX5_adds_79 : decode cX5_adds 79 = .ok (.iaload, 1) := by decide +kernel
theorem dX5_adds_80 : decode cX5_adds 80 = .ok (.ireturn, 1) := by decide +kernel
theorem dX5_adds_81 : decode cX5_adds 81 = .ok (.aload_n 0, 1) := by decide +kernel
theorem dX5_adds_82 : decode cX5_adds 82 = .ok (.getfield 67, 3) := by decide +kernel
theorem dX5_adds_85 : decode cX5_adds 85 = .ok (.istore 4, 2) := by decide +kernel
theorem dX5_adds_87 : decode cX5_adds 87 = .ok (.iload 4, 2) := by decide +kernel
theorem dX5_adds_89 : decode cX5_adds 89 = .ok (.ifCond .le 55, 3) := by decide +kernel
theorem dX5_adds_92 : decode cX5_adds 92 = .ok (.aload_n 0, 1) := by decide +kernel
theorem dX5_adds_93 : decode cX5_adds 93 = .ok (.getfield 17, 3) := by decide +kernel
theorem dX5_adds_96 : decode cX5_adds 96 = .ok (.iload 4, 2) := by decide +kernel
theorem dX5_adds_98 : decode cX5_adds 98 = .ok (.iconst 1, 1) := by decide +kernel
theorem dX5_adds_99 : decode cX5_adds 99 = .ok (.isub, 1) := by decide +kernel
theorem dX5_adds_100 : decode cX5_adds 100 = .ok (.laload, 1) := by decide +kernel
theorem dX5_adds_101 : decode cX5_adds 101 = .ok (.lload_n 1, 1) := by decide +kernel
theorem dX5_adds_102 : decode cX5_adds 102 = .ok (.lcmp, 1) := by decide +kernel
theorem dX5_adds_103 : decode cX5_adds 103 = .ok (.ifCond .le 41, 3) := by decide +kernel
theorem dX5_adds_106 : decode cX5_adds 106 = .ok (.aload_n 0, 1) := by decide +kernel
theorem dX5_adds_107 : decode cX5_adds 107 = .ok (.getfield 17, 3) := by decide +kernel
theorem dX5_adds_110 : decode cX5_adds 110 = .ok (.iload 4, 2) := by decide +kernel
theorem dX5_adds_112 : decode cX5_adds 112 = .ok (.aload_n 0, 1) := by decide +kernel
theorem dX5_adds_113 : decode cX5_adds 113 = .ok (.getfield 17, 3) := by decide +kernel
theorem dX5_adds_116 : decode cX5_adds 116 = .ok (.iload 4, 2) := by decide +kernel
theorem dX5_adds_118 : decode cX5_adds 118 = .ok (.iconst 1, 1) := by decide +kernel
theorem dX5_adds_119 : decode cX5_adds 119 = .ok (.isub, 1) := by decide +kernel
theorem dX5_adds_120 : decode cX5_adds 120 = .ok (.laload, 1) := by decide +kernel
theorem dX5_adds_121 : decode cX5_adds 121 = .ok (.lastore, 1) := by decide +kernel
theorem dX5_adds_122 : decode cX5_adds 122 = .ok (.aload_n 0, 1) := by decide +kernel
theorem dX5_adds_123 : decode cX5_adds 123 = .ok (.getfield 21, 3) := by decide +kernel
theorem dX5_adds_126 : decode cX5_adds 126 = .ok (.iload 4, 2) := by decide +kernel
theorem dX5_adds_128 : decode cX5_adds 128 = .ok (.aload_n 0, 1) := by decide +kernel
theorem dX5_adds_129 : decode cX5_adds 129 = .ok (.getfield 21, 3) := by decide +kernel
theorem dX5_adds_132 : decode cX5_adds 132 = .ok (.iload 4, 2) := by decide +kernel
theorem dX5_adds_134 : decode cX5_adds 134 = .ok (.iconst 1, 1) := by decide +kernel
theorem dX5_adds_135 : decode cX5_adds 135 = .ok (.isub, 1) := by decide +kernel
theorem dX5_adds_136 : decode cX5_adds 136 = .ok (.iaload, 1) := by decide +kernel
theorem dX5_adds_137 : decode cX5_adds 137 = .ok (.iastore, 1) := by decide +kernel
theorem dX5_adds_138 : decode cX5_adds 138 = .ok (.iinc 4 (-1), 3) := by decide +kernel
theorem dX5_adds_141 : decode cX5_adds 141 = .ok (.goto (-54), 3) := by decide +kernel
theorem dX5_adds_144 : decode cX5_adds 144 = .ok (.aload_n 0, 1) := by decide +kernel
theorem dX5_adds_145 : decode cX5_adds 145 = .ok (.getfield 17, 3) := by decide +kernel
theorem dX5_adds_148 : decode cX5_adds 148 = .ok (.iload 4, 2) := by decide +kernel
theorem dX5_adds_150 : decode cX5_adds 150 = .ok (.lload_n 1, 1) := by decide +kernel
theorem dX5_adds_151 : decode cX5_adds 151 = .ok (.lastore, 1) := by decide +kernel
theorem dX5_adds_152 : decode cX5_adds 152 = .ok (.aload_n 0, 1) := by decide +kernel
theorem dX5_adds_153 : decode cX5_adds 153 = .ok (.getfield 21, 3) := by decide +kernel
theorem dX5_adds_156 : decode cX5_adds 156 = .ok (.iload 4, 2) := by decide +kernel
theorem dX5_adds_158 : decode cX5_adds 158 = .ok (.iconst 1, 1) := by decide +kernel
theorem dX5_adds_159 : decode cX5_adds 159 = .ok (.iastore, 1) := by decide +kernel
theorem dX5_adds_160 : decode cX5_adds 160 = .ok (.aload_n 0, 1) := by decide +kernel
theorem dX5_adds_161 : decode cX5_adds 161 = .ok (.dup, 1) := by decide +kernel
theorem dX5_adds_162 : decode cX5_adds 162 = .ok (.getfield 67, 3) := by decide +kernel
theorem dX5_adds_165 : decode cX5_adds 165 = .ok (.iconst 1, 1) := by decide +kernel
theorem dX5_adds_166 : decode cX5_adds 166 = .ok (.iadd, 1) := by decide +kernel
theorem dX5_adds_167 : decode cX5_adds 167 = .ok (.putfield 67, 3) := by decide +kernel
theorem dX5_adds_170 : decode cX5_adds 170 = .ok (.aload_n 0, 1) := by decide +kernel
theorem dX5_adds_171 : decode cX5_adds 171 = .ok (.lload_n 1, 1) := by decide +kernel
theorem dX5_adds_172 : decode cX5_adds 172 = .ok (.invokevirtual 104, 3) := by decide +kernel
theorem dX5_adds_175 : decode cX5_adds 175 = .ok (.iconst 1, 1) := by decide +kernel
theorem dX5_adds_176 : decode cX5_adds 176 = .ok (.ireturn, 1) := by decide +kernel
theorem dX5_leaves_0 : decode cX5_leaves 0 = .ok (.iconst 0, 1) := by decide +kernel
theorem dX5_leaves_1 : decode cX5_leaves 1 = .ok (.istore_n 3, 1) := by decide +kernel
theorem dX5_leaves_2 : decode cX5_leaves 2 = .ok (.aload_n 0, 1) := by decide +kernel
theorem dX5_leaves_3 : decode cX5_leaves 3 = .ok (.getfield 24, 3) := by decide +kernel
theorem dX5_leaves_6 : decode cX5_leaves 6 = .ok (.iload_n 3, 1) := by decide +kernel
theorem dX5_leaves_7 : decode cX5_leaves 7 = .ok (.laload, 1) := by decide +kernel
theorem dX5_leaves_8 : decode cX5_leaves 8 = .ok (.lload_n 1, 1) := by decide +kernel
theorem dX5_leaves_9 : decode cX5_leaves 9 = .ok (.lcmp, 1) := by decide +kernel
theorem dX5_leaves_10 : decode cX5_leaves 10 = .ok (.ifCond .eq 9, 3) := by decide +kernel
theorem dX5_leaves_13 : decode cX5_leaves 13 = .ok (.iinc 3 1, 3) := by decide +kernel
theorem dX5_leaves_16 : decode cX5_leaves 16 = .ok (.goto (-14), 3) := by decide +kernel
theorem dX5_leaves_19 : decode cX5_leaves 19 = .ok (.iload_n 3, 1) := by decide +kernel
theorem dX5_leaves_20 : decode cX5_leaves 20 = .ok (.istore 4, 2) := by decide +kernel
theorem dX5_leaves_22 : decode cX5_leaves 22 = .ok (.iload 4, 2) := by decide +kernel
theorem dX5_leaves_24 : decode cX5_leaves 24 = .ok (.iconst 1, 1) := by decide +kernel
theorem dX5_leaves_25 : decode cX5_leaves 25 = .ok (.iadd, 1) := by decide +kernel
theorem dX5_leaves_26 : decode cX5_leaves 26 = .ok (.aload_n 0, 1) := by decide +kernel
theorem dX5_leaves_27 : decode cX5_leaves 27 = .ok (.getfield 74, 3) := by decide +kernel
theorem dX5_leaves_30 : decode cX5_leaves 30 = .ok (.if_icmp .ge 25, 3) := by decide +kernel
theorem dX5_leaves_33 : decode cX5_leaves 33 = .ok (.aload_n 0, 1) := by decide +kernel
theorem dX5_leaves_34 : decode cX5_leaves 34 = .ok (.getfield 24, 3) := by decide +kernel
theorem dX5_leaves_37 : decode cX5_leaves 37 = .ok (.iload 4, 2) := by decide +kernel
theorem dX5_leaves_39 : decode cX5_leaves 39 = .ok (.aload_n 0, 1) := by decide +kernel
theorem dX5_leaves_40 : decode cX5_leaves 40 = .ok (.getfield 24, 3) := by decide +kernel
theorem dX5_leaves_43 : decode cX5_leaves 43 = .ok (.iload 4, 2) := by decide +kernel
theorem dX5_leaves_45 : decode cX5_leaves 45 = .ok (.iconst 1, 1) := by decide +kernel
theorem dX5_leaves_46 : decode cX5_leaves 46 = .ok (.iadd, 1) := by decide +kernel
theorem dX5_leaves_47 : decode cX5_leaves 47 = .ok (.laload, 1) := by decide +kernel
theorem dX5_leaves_48 : decode cX5_leaves 48 = .ok (.lastore, 1) := by decide +kernel
theorem dX5_leaves_49 : decode cX5_leaves 49 = .ok (.iinc 4 1, 3) := by decide +kernel
theorem dX5_leaves_52 : decode cX5_leaves 52 = .ok (.goto (-30), 3) := by decide +kernel
theorem dX5_leaves_55 : decode cX5_leaves 55 = .ok (.aload_n 0, 1) := by decide +kernel
theorem dX5_leaves_56 : decode cX5_leaves 56 = .ok (.dup, 1) := by decide +kernel
theorem dX5_leaves_57 : decode cX5_leaves 57 = .ok (.getfield 74, 3) := by decide +kernel
theorem dX5_leaves_60 : decode cX5_leaves 60 = .ok (.iconst 1, 1) := by decide +kernel
theorem dX5_leaves_61 : decode cX5_leaves 61 = .ok (.isub, 1) := by decide +kernel
theorem dX5_leaves_62 : decode cX5_leaves 62 = .ok (.putfield 74, 3) := by decide +kernel
theorem dX5_leaves_65 : decode cX5_leaves 65 = .ok (.return_, 1) := by decide +kernel
set_option maxRecDepth 20000 in
theorem ggX5_shrinks_X5_size : GoodIn wsX5_shrinks wsX5_size := goodIn_r _ [5, 6, 7, 4, 8, 9, 10, 11, 12] (by decide +kernel) (by decide +kernel)
set_option maxRecDepth 20000 in
theorem gX5_shrinks_X5_size : GoodIn wsX5_shrinks (va_wsS RX5 59 yX5_size wsX5_size) := goodIn_app (goodIn_of _ (by decide +kernel)) ggX5_shrinks_X5_size
set_option maxRecDepth 20000 in
theorem ggX5_shrinks_X5_head : GoodIn wsX5_shrinks wsX5_head := goodIn_r _ [15, 10, 11, 4, 12, 9] (by decide +kernel) (by decide +kernel)
set_option maxRecDepth 20000 in
theorem gX5_shrinks_X5_head : GoodIn wsX5_shrinks (va_wsS RX5 63 yX5_head wsX5_head) := goodIn_app (goodIn_of _ (by decide +kernel)) ggX5_shrinks_X5_head
set_option maxRecDepth 20000 in
theorem ggX5_shrinks_X5_isNode : GoodIn wsX5_shrinks wsX5_isNode := goodIn_r _ [19, 20, 21, 35, 36, 37, 38, 39, 40, 41, 42, 43, 44, 45, 46, 47, 48, 49, 50] (by decide +kernel) (by decide +kernel)
set_option maxRecDepth 20000 in
theorem gX5_shrinks_X5_isNode : GoodIn wsX5_shrinks (wsV RX5 77 RX5 yX5_isNode wsX5_isNode) := goodIn_app (goodIn_of _ (by decide +kernel)) ggX5_shrinks_X5_isNode
set_option maxRecDepth 20000 in
theorem ggX5_shrinks_X5_beginning : GoodIn wsX5_shrinks wsX5_beginning := goodIn_r _ [25, 26, 27, 28, 29, 4, 30, 2, 3, 5, 6, 7, 8, 9, 10, 11, 12, 13, 14, 15, 35, 36, 37, 38, 39, 40, 41, 42, 43, 44, 45, 46, 47, 48, 49, 50] (by decide +kernel) (by decide +kernel)
set_option maxRecDepth 20000 in
theorem gX5_shrinks_X5_beginning : GoodIn wsX5_shrinks (wsV RX5 91 RX5 yX5_beginning wsX5_beginning) := goodIn_app (goodIn_of _ (by decide +kernel)) ggX5_shrinks_X5_beginning
set_option maxRecDepth 20000 in
theorem ggX5_shrinks_X5_leaves : GoodIn wsX5_shrinks wsX5_leaves := goodIn_r _ [34, 21, 20, 35, 36, 37, 38, 39, 40, 41, 42, 43, 44, 45, 46, 47, 48, 49, 50] (by decide +kernel) (by decide +kernel)
set_option maxRecDepth 20000 in
theorem gX5_shrinks_X5_leaves : GoodIn wsX5_shrinks (wsV RX5 108 RX5 yX5_leaves wsX5_leaves) := goodIn_app (goodIn_of _ (by decide +kernel)) ggX5_shrinks_X5_leaves
theorem dX5_shrinks_0 : decode cX5_shrinks 0 = .ok (.iconst 0, 1) := by decide +kernel
theorem dX5_shrinks_1 : decode cX5_shrinks 1 = .ok (.istore_n 3, 1) := by decide +kernel
theorem dX5_shrinks_2 : decode cX5_shrinks 2 = .ok (.lload_n 1, 1) := by decide +kernel
theorem dX5_shrinks_3 : decode cX5_shrinks 3 = .ok (.invokestatic 59, 3) := by decide +kernel
theorem dX5_shrinks_6 : decode cX5_shrinks 6 = .ok (.istore 4, 2) := by decide +kernel
theorem dX5_shrinks_8 : decode cX5_shrinks 8 = .ok (.iload 4, 2) := by decide +kernel
theorem dX5_shrinks_10 : decode cX5_shrinks 10 = .ok (.ifCond .lt 61, 3) := by decide +kernel
theorem dX5_shrinks_13 : decode cX5_shrinks 13 = .ok (.iload_n 3, 1) := by decide +kernel
theorem dX5_shrinks_14 : decode cX5_shrinks 14 = .ok (.ifCond .ne 57, 3) := by decide +kernel
theorem dX5_shrinks_17 : decode cX5_shrinks 17 = .ok (.lload_n 1, 1) := by decide +kernel
theorem dX5_shrinks_18 : decode cX5_shrinks 18 = .ok (.iload 4, 2) := by decide +kernel
theorem dX5_shrinks_20 : decode cX5_shrinks 20 = .ok (.invokestatic 63, 3) := by decide +kernel
theorem dX5_shrinks_23 : decode cX5_shrinks 23 = .ok (.lstore 5, 2) := by decide +kernel
theorem dX5_shrinks_25 : decode cX5_shrinks 25 = .ok (.aload_n 0, 1) := by decide +kernel
theorem dX5_shrinks_26 : decode cX5_shrinks 26 = .ok (.lload 5, 2) := by decide +kernel
theorem dX5_shrinks_28 : decode cX5_shrinks 28 = .ok (.invokevirtual 77, 3) := by decide +kernel
theorem dX5_shrinks_31 : decode cX5_shrinks 31 = .ok (.ifCond .eq 34, 3) := by decide +kernel
theorem dX5_shrinks_34 : decode cX5_shrinks 34 = .ok (.aload_n 0, 1) := by decide +kernel
theorem dX5_shrinks_35 : decode cX5_shrinks 35 = .ok (.lload 5, 2) := by decide +kernel
theorem dX5_shrinks_37 : decode cX5_shrinks 37 = .ok (.invokevirtual 91, 3) := by decide +kernel
theorem dX5_shrinks_40 : decode cX5_shrinks 40 = .ok (.aload_n 0, 1) := by decide +kernel
theorem dX5_shrinks_41 : decode cX5_shrinks 41 = .ok (.getfield 13, 3) := by decide +kernel
theorem dX5_shrinks_44 : decode cX5_shrinks 44 = .ok (.iconst 2, 1) := by decide +kernel
theorem dX5_shrinks_45 : decode cX5_shrinks 45 = .ok (.idiv, 1) := by decide +kernel
theorem dX5_shrinks_46 : decode cX5_shrinks 46 = .ok (.if_icmp .le 7, 3) := by decide +kernel
theorem dX5_shrinks_49 : decode cX5_shrinks 49 = .ok (.iconst 1, 1) := by decide +kernel
theorem dX5_shrinks_50 : decode cX5_shrinks 50 = .ok (.goto 4, 3) := by decide +kernel
theorem dX5_shrinks_53 : decode cX5_shrinks 53 = .ok (.iconst 0, 1) := by decide +kernel
theorem dX5_shrinks_54 : decode cX5_shrinks 54 = .ok (.istore_n 3, 1) := by decide +kernel
theorem dX5_shrinks_55 : decode cX5_shrinks 55 = .ok (.iload_n 3, 1) := by decide +kernel
theorem dX5_shrinks_56 : decode cX5_shrinks 56 = .ok (.ifCond .ne 9, 3) := by decide +kernel
theorem dX5_shrinks_59 : decode cX5_shrinks 59 = .ok (.aload_n 0, 1) := by decide +kernel
theorem dX5_shrinks_60 : decode cX5_shrinks 60 = .ok (.lload 5, 2) := by decide +kernel
theorem dX5_shrinks_62 : decode cX5_shrinks 62 = .ok (.invokevirtual 108, 3) := by decide +kernel
theorem dX5_shrinks_65 : decode cX5_shrinks 65 = .ok (.iinc 4 (-1), 3) := by decide +kernel
theorem dX5_shrinks_68 : decode cX5_shrinks 68 = .ok (.goto (-60), 3) := by decide +kernel
theorem dX5_shrinks_71 : decode cX5_shrinks 71 = .ok (.return_, 1) := by decide +kernel
set_option maxRecDepth 20000 in
theorem ggX5_takes_X5_own : GoodIn wsX5_takes wsX5_own := goodIn_r _ [9, 10, 11, 12, 57, 58, 59, 60, 61, 62, 63, 64, 65, 66, 67, 68, 69, 70, 71, 72] (by decide +kernel) (by decide +kernel)
set_option maxRecDepth 20000 in
theorem gX5_takes_X5_own : GoodIn wsX5_takes (wsV RX5 94 RX5 yX5_own wsX5_own) := goodIn_app (goodIn_of _ (by decide +kernel)) ggX5_takes_X5_own
set_option maxRecDepth 20000 in
theorem ggX5_takes_X5_placeOf : GoodIn wsX5_takes wsX5_placeOf := goodIn_r _ [16, 3, 4, 57, 58, 59, 60, 61, 62, 63, 64, 65, 66, 67, 68, 69, 70, 71, 72] (by decide +kernel) (by decide +kernel)
set_option maxRecDepth 20000 in
theorem gX5_takes_X5_placeOf : GoodIn wsX5_takes (wsV RX5 98 RX5 yX5_placeOf wsX5_placeOf) := goodIn_app (goodIn_of _ (by decide +kernel)) ggX5_takes_X5_placeOf
set_option maxRecDepth 20000 in
theorem ggX5_takes_X5_notes : GoodIn wsX5_takes wsX5_notes := goodIn_r _ [20, 21, 22, 3, 23, 4, 2, 24, 57, 58, 59, 60, 61, 62, 63, 64, 65, 66, 67, 68, 69, 70, 71, 72] (by decide +kernel) (by decide +kernel)
set_option maxRecDepth 20000 in
theorem gX5_takes_X5_notes : GoodIn wsX5_takes (wsV RX5 101 RX5 yX5_notes wsX5_notes) := goodIn_app (goodIn_of _ (by decide +kernel)) ggX5_takes_X5_notes
set_option maxRecDepth 20000 in
theorem ggX5_takes_X5_shrinks : GoodIn wsX5_takes wsX5_shrinks := goodIn_r _ [28, 29, 30, 31, 8, 32, 33, 34, 35, 10, 36, 37, 38, 39, 40, 41, 42, 43, 44, 45, 23, 24, 46, 47, 48, 49, 3, 4, 50, 51, 52, 53, 54, 55, 56, 57, 58, 59, 60, 61, 62, 63, 64, 65, 66, 67, 68, 69, 70, 71, 72] (by decide +kernel) (by decide +kernel)
set_option maxRecDepth 20000 in
theorem gX5_takes_X5_shrinks : GoodIn wsX5_takes (wsV RX5 111 RX5 yX5_shrinks wsX5_shrinks) := goodIn_app (goodIn_of _ (by decide +kernel)) ggX5_takes_X5_shrinks
theorem dX5_takes_0 : decode cX5_takes 0 = .ok (.aload_n 0, 1) := by decide +kernel
theorem dX5_takes_1 : decode cX5_takes 1 = .ok (.iconst 0, 1) := by decide +kernel
theorem dX5_takes_2 : decode cX5_takes 2 = .ok (.putfield 43, 3) := by decide +kernel
theorem dX5_takes_5 : decode cX5_takes 5 = .ok (.aload_n 0, 1) := by decide +kernel
theorem dX5_takes_6 : decode cX5_takes 6 = .ok (.invokevirtual 94, 3) := by decide +kernel
theorem dX5_takes_9 : decode cX5_takes 9 = .ok (.lstore_n 1, 1) := by decide +kernel
theorem dX5_takes_10 : decode cX5_takes 10 = .ok (.aload_n 0, 1) := by decide +kernel
theorem dX5_takes_11 : decode cX5_takes 11 = .ok (.lload_n 1, 1) := by decide +kernel
theorem dX5_takes_12 : decode cX5_takes 12 = .ok (.invokevirtual 98, 3) := by decide +kernel
theorem dX5_takes_15 : decode cX5_takes 15 = .ok (.istore_n 3, 1) := by decide +kernel
theorem dX5_takes_16 : decode cX5_takes 16 = .ok (.iload_n 3, 1) := by decide +kernel
theorem dX5_takes_17 : decode cX5_takes 17 = .ok (.ifCond .ge 6, 3) := by decide +kernel
theorem dX5_takes_20 : decode cX5_takes 20 = .ok (.bipush (-2), 2) := by decide +kernel
theorem dX5_takes_22 : decode cX5_takes 22 = .ok (.ireturn, 1) := by decide +kernel
theorem dX5_takes_23 : decode cX5_takes 23 = .ok (.aload_n 0, 1) := by decide +kernel
theorem dX5_takes_24 : decode cX5_takes 24 = .ok (.invokevirtual 101, 3) := by decide +kernel
theorem dX5_takes_27 : decode cX5_takes 27 = .ok (.aload_n 0, 1) := by decide +kernel
theorem dX5_takes_28 : decode cX5_takes 28 = .ok (.getfield 21, 3) := by decide +kernel
theorem dX5_takes_31 : decode cX5_takes 31 = .ok (.iload_n 3, 1) := by decide +kernel
theorem dX5_takes_32 : decode cX5_takes 32 = .ok (.dup2, 1) := by decide +kernel
theorem dX5_takes_33 : decode cX5_takes 33 = .ok (.iaload, 1) := by decide +kernel
theorem dX5_takes_34 : decode cX5_takes 34 = .ok (.iconst 1, 1) := by decide +kernel
theorem dX5_takes_35 : decode cX5_takes 35 = .ok (.isub, 1) := by decide +kernel
theorem dX5_takes_36 : decode cX5_takes 36 = .ok (.iastore, 1) := by decide +kernel
theorem dX5_takes_37 : decode cX5_takes 37 = .ok (.aload_n 0, 1) := by decide +kernel
theorem dX5_takes_38 : decode cX5_takes 38 = .ok (.getfield 21, 3) := by decide +kernel
theorem dX5_takes_41 : decode cX5_takes 41 = .ok (.iload_n 3, 1) := by decide +kernel
theorem dX5_takes_42 : decode cX5_takes 42 = .ok (.iaload, 1) := by decide +kernel
theorem dX5_takes_43 : decode cX5_takes 43 = .ok (.istore 4, 2) := by decide +kernel
theorem dX5_takes_45 : decode cX5_takes 45 = .ok (.iload 4, 2) := by decide +kernel
theorem dX5_takes_47 : decode cX5_takes 47 = .ok (.ifCond .ne 70, 3) := by decide +kernel
theorem dX5_takes_50 : decode cX5_takes 50 = .ok (.iload_n 3, 1) := by decide +kernel
theorem dX5_takes_51 : decode cX5_takes 51 = .ok (.istore 5, 2) := by decide +kernel
theorem dX5_takes_53 : decode cX5_takes 53 = .ok (.iload 5, 2) := by decide +kernel
theorem dX5_takes_55 : decode cX5_takes 55 = .ok (.iconst 1, 1) := by decide +kernel
theorem dX5_takes_56 : decode cX5_takes 56 = .ok (.iadd, 1) := by decide +kernel
theorem dX5_takes_57 : decode cX5_takes 57 = .ok (.aload_n 0, 1) := by decide +kernel
theorem dX5_takes_58 : decode cX5_takes 58 = .ok (.getfield 67, 3) := by decide +kernel
theorem dX5_takes_61 : decode cX5_takes 61 = .ok (.if_icmp .ge 41, 3) := by decide +kernel
theorem dX5_takes_64 : decode cX5_takes 64 = .ok (.aload_n 0, 1) := by decide +kernel
theorem dX5_takes_65 : decode cX5_takes 65 = .ok (.getfield 17, 3) := by decide +kernel
theorem dX5_takes_68 : decode cX5_takes 68 = .ok (.iload 5, 2) := by decide +kernel
theorem dX5_takes_70 : decode cX5_takes 70 = .ok (.aload_n 0, 1) := by decide +kernel
theorem dX5_takes_71 : decode cX5_takes 71 = .ok (.getfield 17, 3) := by decide +kernel
theorem dX5_takes_74 : decode cX5_takes 74 = .ok (.iload 5, 2) := by decide +kernel
theorem dX5_takes_76 : decode cX5_takes 76 = .ok (.iconst 1, 1) := by decide +kernel
theorem dX5_takes_77 : decode cX5_takes 77 = .ok (.iadd, 1) := by decide +kernel
theorem dX5_takes_78 : decode cX5_takes 78 = .ok (.laload, 1) := by decide +kernel
theorem dX5_takes_79 : decode cX5_takes 79 = .ok (.lastore, 1) := by decide +kernel
theorem dX5_takes_80 : decode cX5_takes 80 = .ok (.aload_n 0, 1) := by decide +kernel
theorem dX5_takes_81 : decode cX5_takes 81 = .ok (.getfield 21, 3) := by decide +kernel
theorem dX5_takes_84 : decode cX5_takes 84 = .ok (.iload 5, 2) := by decide +kernel
theorem dX5_takes_86 : decode cX5_takes 86 = .ok (.aload_n 0, 1) := by decide +kernel
theorem dX5_takes_87 : decode cX5_takes 87 = .ok (.getfield 21, 3) := by decide +kernel
theorem dX5_takes_90 : decode cX5_takes 90 = .ok (.iload 5, 2) := by decide +kernel
theorem dX5_takes_92 : decode cX5_takes 92 = .ok (.iconst 1, 1) := by decide +kernel
theorem dX5_takes_93 : decode cX5_takes 93 = .ok (.iadd, 1) := by decide +kernel
theorem dX5_takes_94 : decode cX5_takes 94 = .ok (.iaload, 1) := by decide +kernel
theorem dX5_takes_95 : decode cX5_takes 95 = .ok (.iastore, 1) := by decide +kernel
theorem dX5_takes_96 : decode cX5_takes 96 = .ok (.iinc 5 1, 3) := by decide +kernel
theorem dX5_takes_99 : decode cX5_takes 99 = .ok (.goto (-46), 3) := by decide +kernel
theorem dX5_takes_102 : decode cX5_takes 102 = .ok (.aload_n 0, 1) := by decide +kernel
theorem dX5_takes_103 : decode cX5_takes 103 = .ok (.dup, 1) := by decide +kernel
theorem dX5_takes_104 : decode cX5_takes 104 = .ok (.getfield 67, 3) := by decide +kernel
theorem dX5_takes_107 : decode cX5_takes 107 = .ok (.iconst 1, 1) := by decide +kernel
theorem dX5_takes_108 : decode cX5_takes 108 = .ok (.isub, 1) := by decide +kernel
theorem dX5_takes_109 : decode cX5_takes 109 = .ok (.putfield 67, 3) := by decide +kernel
theorem dX5_takes_112 : decode cX5_takes 112 = .ok (.aload_n 0, 1) := by decide +kernel
theorem dX5_takes_113 : decode cX5_takes 113 = .ok (.lload_n 1, 1) := by decide +kernel
theorem dX5_takes_114 : decode cX5_takes 114 = .ok (.invokevirtual 111, 3) := by decide +kernel
theorem dX5_takes_117 : decode cX5_takes 117 = .ok (.iload 4, 2) := by decide +kernel
theorem dX5_takes_119 : decode cX5_takes 119 = .ok (.ireturn, 1) := by decide +kernel
theorem dX5_undo_0 : decode cX5_undo 0 = .ok (.aload_n 0, 1) := by decide +kernel
theorem dX5_undo_1 : decode cX5_undo 1 = .ok (.iconst 0, 1) := by decide +kernel
theorem dX5_undo_2 : decode cX5_undo 2 = .ok (.putfield 43, 3) := by decide +kernel
theorem dX5_undo_5 : decode cX5_undo 5 = .ok (.aload_n 0, 1) := by decide +kernel
theorem dX5_undo_6 : decode cX5_undo 6 = .ok (.getfield 85, 3) := by decide +kernel
theorem dX5_undo_9 : decode cX5_undo 9 = .ok (.ifCond .ne 6, 3) := by decide +kernel
theorem dX5_undo_12 : decode cX5_undo 12 = .ok (.bipush (-2), 2) := by decide +kernel
theorem dX5_undo_14 : decode cX5_undo 14 = .ok (.ireturn, 1) := by decide +kernel
theorem dX5_undo_15 : decode cX5_undo 15 = .ok (.aload_n 0, 1) := by decide +kernel
theorem dX5_undo_16 : decode cX5_undo 16 = .ok (.dup, 1) := by decide +kernel
theorem dX5_undo_17 : decode cX5_undo 17 = .ok (.getfield 85, 3) := by decide +kernel
theorem dX5_undo_20 : decode cX5_undo 20 = .ok (.iconst 1, 1) := by decide +kernel
theorem dX5_undo_21 : decode cX5_undo 21 = .ok (.isub, 1) := by decide +kernel
theorem dX5_undo_22 : decode cX5_undo 22 = .ok (.putfield 85, 3) := by decide +kernel
theorem dX5_undo_25 : decode cX5_undo 25 = .ok (.sipush 282, 3) := by decide +kernel
theorem dX5_undo_28 : decode cX5_undo 28 = .ok (.aload_n 0, 1) := by decide +kernel
theorem dX5_undo_29 : decode cX5_undo 29 = .ok (.getfield 85, 3) := by decide +kernel
theorem dX5_undo_32 : decode cX5_undo 32 = .ok (.imul, 1) := by decide +kernel
theorem dX5_undo_33 : decode cX5_undo 33 = .ok (.istore_n 1, 1) := by decide +kernel
theorem dX5_undo_34 : decode cX5_undo 34 = .ok (.aload_n 0, 1) := by decide +kernel
theorem dX5_undo_35 : decode cX5_undo 35 = .ok (.aload_n 0, 1) := by decide +kernel
theorem dX5_undo_36 : decode cX5_undo 36 = .ok (.getfield 27, 3) := by decide +kernel
theorem dX5_undo_39 : decode cX5_undo 39 = .ok (.iload_n 1, 1) := by decide +kernel
theorem dX5_undo_40 : decode cX5_undo 40 = .ok (.laload, 1) := by decide +kernel
theorem dX5_undo_41 : decode cX5_undo 41 = .ok (.l2i, 1) := by decide +kernel
theorem dX5_undo_42 : decode cX5_undo 42 = .ok (.putfield 67, 3) := by decide +kernel
theorem dX5_undo_45 : decode cX5_undo 45 = .ok (.aload_n 0, 1) := by decide +kernel
theorem dX5_undo_46 : decode cX5_undo 46 = .ok (.aload_n 0, 1) := by decide +kernel
theorem dX5_undo_47 : decode cX5_undo 47 = .ok (.getfield 27, 3) := by decide +kernel
theorem dX5_undo_50 : decode cX5_undo 50 = .ok (.iload_n 1, 1) := by decide +kernel
theorem dX5_undo_51 : decode cX5_undo 51 = .ok (.iconst 1, 1) := by decide +kernel
theorem dX5_undo_52 : decode cX5_undo 52 = .ok (.iadd, 1) := by decide +kernel
theorem dX5_undo_53 : decode cX5_undo 53 = .ok (.laload, 1) := by decide +kernel
theorem dX5_undo_54 : decode cX5_undo 54 = .ok (.l2i, 1) := by decide +kernel
theorem dX5_undo_55 : decode cX5_undo 55 = .ok (.putfield 74, 3) := by decide +kernel
theorem dX5_undo_58 : decode cX5_undo 58 = .ok (.iconst 0, 1) := by decide +kernel
theorem dX5_undo_59 : decode cX5_undo 59 = .ok (.istore_n 2, 1) := by decide +kernel
theorem dX5_undo_60 : decode cX5_undo 60 = .ok (.iload_n 2, 1) := by decide +kernel
theorem dX5_undo_61 : decode cX5_undo 61 = .ok (.bipush 40, 2) := by decide +kernel
theorem dX5_undo_63 : decode cX5_undo 63 = .ok (.if_icmp .ge 43, 3) := by decide +kernel
theorem dX5_undo_66 : decode cX5_undo 66 = .ok (.aload_n 0, 1) := by decide +kernel
theorem dX5_undo_67 : decode cX5_undo 67 = .ok (.getfield 17, 3) := by decide +kernel
theorem dX5_undo_70 : decode cX5_undo 70 = .ok (.iload_n 2, 1) := by decide +kernel
theorem dX5_undo_71 : decode cX5_undo 71 = .ok (.aload_n 0, 1) := by decide +kernel
theorem dX5_undo_72 : decode cX5_undo 72 = .ok (.getfield 27, 3) := by decide +kernel
theorem dX5_undo_75 : decode cX5_undo 75 = .ok (.iload_n 1, 1) := by decide +kernel
theorem dX5_undo_76 : decode cX5_undo 76 = .ok (.iconst 2, 1) := by decide +kernel
theorem dX5_undo_77 : decode cX5_undo 77 = .ok (.iadd, 1) := by decide +kernel
theorem dX5_undo_78 : decode cX5_undo 78 = .ok (.iload_n 2, 1) := by decide +kernel
theorem dX5_undo_79 : decode cX5_undo 79 = .ok (.iadd, 1) := by decide +kernel
theorem dX5_undo_80 : decode cX5_undo 80 = .ok (.laload, 1) := by decide +kernel
theorem dX5_undo_81 : decode cX5_undo 81 = .ok (.lastore, 1) := by decide +kernel
theorem dX5_undo_82 : decode cX5_undo 82 = .ok (.aload_n 0, 1) := by decide +kernel
theorem dX5_undo_83 : decode cX5_undo 83 = .ok (.getfield 21, 3) := by decide +kernel
theorem dX5_undo_86 : decode cX5_undo 86 = .ok (.iload_n 2, 1) := by decide +kernel
theorem dX5_undo_87 : decode cX5_undo 87 = .ok (.aload_n 0, 1) := by decide +kernel
theorem dX5_undo_88 : decode cX5_undo 88 = .ok (.getfield 27, 3) := by decide +kernel
theorem dX5_undo_91 : decode cX5_undo 91 = .ok (.iload_n 1, 1) := by decide +kernel
theorem dX5_undo_92 : decode cX5_undo 92 = .ok (.bipush 42, 2) := by decide +kernel
theorem dX5_undo_94 : decode cX5_undo 94 = .ok (.iadd, 1) := by decide +kernel
theorem dX5_undo_95 : decode cX5_undo 95 = .ok (.iload_n 2, 1) := by decide +kernel
theorem dX5_undo_96 : decode cX5_undo 96 = .ok (.iadd, 1) := by decide +kernel
theorem dX5_undo_97 : decode cX5_undo 97 = .ok (.laload, 1) := by decide +kernel
theorem dX5_undo_98 : decode cX5_undo 98 = .ok (.l2i, 1) := by decide +kernel
theorem dX5_undo_99 : decode cX5_undo 99 = .ok (.iastore, 1) := by decide +kernel
theorem dX5_undo_100 : decode cX5_undo 100 = .ok (.iinc 2 1, 3) := by decide +kernel
theorem dX5_undo_103 : decode cX5_undo 103 = .ok (.goto (-43), 3) := by decide +kernel
theorem dX5_undo_106 : decode cX5_undo 106 = .ok (.iconst 0, 1) := by decide +kernel
theorem dX5_undo_107 : decode cX5_undo 107 = .ok (.istore_n 2, 1) := by decide +kernel
theorem dX5_undo_108 : decode cX5_undo 108 = .ok (.iload_n 2, 1) := by decide +kernel
theorem dX5_undo_109 : decode cX5_undo 109 = .ok (.sipush 200, 3) := by decide +kernel
theorem dX5_undo_112 : decode cX5_undo 112 = .ok (.if_icmp .ge 26, 3) := by decide +kernel
theorem dX5_undo_115 : decode cX5_undo 115 = .ok (.aload_n 0, 1) := by decide +kernel
theorem dX5_undo_116 : decode cX5_undo 116 = .ok (.getfield 24, 3) := by decide +kernel
theorem dX5_undo_119 : decode cX5_undo 119 = .ok (.iload_n 2, 1) := by decide +kernel
theorem dX5_undo_120 : decode cX5_undo 120 = .ok (.aload_n 0, 1) := by decide +kernel
theorem dX5_undo_121 : decode cX5_undo 121 = .ok (.getfield 27, 3) := by decide +kernel
theorem dX5_undo_124 : decode cX5_undo 124 = .ok (.iload_n 1, 1) := by decide +kernel
theorem dX5_undo_125 : decode cX5_undo 125 = .ok (.bipush 82, 2) := by decide +kernel
theorem dX5_undo_127 : decode cX5_undo 127 = .ok (.iadd, 1) := by decide +kernel
theorem dX5_undo_128 : decode cX5_undo 128 = .ok (.iload_n 2, 1) := by decide +kernel
theorem dX5_undo_129 : decode cX5_undo 129 = .ok (.iadd, 1) := by decide +kernel
theorem dX5_undo_130 : decode cX5_undo 130 = .ok (.laload, 1) := by decide +kernel
theorem dX5_undo_131 : decode cX5_undo 131 = .ok (.lastore, 1) := by decide +kernel
theorem dX5_undo_132 : decode cX5_undo 132 = .ok (.iinc 2 1, 3) := by decide +kernel
theorem dX5_undo_135 : decode cX5_undo 135 = .ok (.goto (-27), 3) := by decide +kernel
theorem dX5_undo_138 : decode cX5_undo 138 = .ok (.aload_n 0, 1) := by decide +kernel
theorem dX5_undo_139 : decode cX5_undo 139 = .ok (.getfield 85, 3) := by decide +kernel
theorem dX5_undo_142 : decode cX5_undo 142 = .ok (.ireturn, 1) := by decide +kernel
set_option maxRecDepth 20000 in
theorem ggX5_times_X5_own : GoodIn wsX5_times wsX5_own := goodIn_r _ [7, 8, 9, 10, 17, 18, 19, 20, 21, 22, 23, 24, 25, 26, 27, 28, 29, 30, 31, 32] (by decide +kernel) (by decide +kernel)
set_option maxRecDepth 20000 in
theorem gX5_times_X5_own : GoodIn wsX5_times (wsV RX5 94 RX5 yX5_own wsX5_own) := goodIn_app (goodIn_of _ (by decide +kernel)) ggX5_times_X5_own
set_option maxRecDepth 20000 in
theorem ggX5_times_X5_placeOf : GoodIn wsX5_times wsX5_placeOf := goodIn_r _ [14, 15, 16, 17, 18, 19, 20, 21, 22, 23, 24, 25, 26, 27, 28, 29, 30, 31, 32] (by decide +kernel) (by decide +kernel)
set_option maxRecDepth 20000 in
theorem gX5_times_X5_placeOf : GoodIn wsX5_times (wsV RX5 98 RX5 yX5_placeOf wsX5_placeOf) := goodIn_app (goodIn_of _ (by decide +kernel)) ggX5_times_X5_placeOf
theorem dX5_times_0 : decode cX5_times 0 = .ok (.aload_n 0, 1) := by decide +kernel
theorem dX5_times_1 : decode cX5_times 1 = .ok (.iconst 0, 1) := by decide +kernel
theorem dX5_times_2 : decode cX5_times 2 = .ok (.putfield 43, 3) := by decide +kernel
theorem dX5_times_5 : decode cX5_times 5 = .ok (.aload_n 0, 1) := by decide +kernel
theorem dX5_times_6 : decode cX5_times 6 = .ok (.aload_n 0, 1) := by decide +kernel
theorem dX5_times_7 : decode cX5_times 7 = .ok (.invokevirtual 94, 3) := by decide +kernel
theorem dX5_times_10 : decode cX5_times 10 = .ok (.invokevirtual 98, 3) := by decide +kernel
theorem dX5_times_13 : decode cX5_times 13 = .ok (.istore_n 1, 1) := by decide +kernel
theorem dX5_times_14 : decode cX5_times 14 = .ok (.iload_n 1, 1) := by decide +kernel
theorem dX5_times_15 : decode cX5_times 15 = .ok (.ifCond .ge 7, 3) := by decide +kernel
theorem dX5_times_18 : decode cX5_times 18 = .ok (.iconst 0, 1) := by decide +kernel
theorem dX5_times_19 : decode cX5_times 19 = .ok (.goto 9, 3) := by decide +kernel
theorem dX5_times_22 : decode cX5_times 22 = .ok (.aload_n 0, 1) := by decide +kernel
theorem dX5_times_23 : decode cX5_times 23 = .ok (.getfield 21, 3) := by decide +kernel
theorem dX5_times_26 : decode cX5_times 26 = .ok (.iload_n 1, 1) := by decide +kernel
theorem dX5_times_27 : decode cX5_times 27 = .ok (.iaload, 1) := by decide +kernel
theorem dX5_times_28 : decode cX5_times 28 = .ok (.ireturn, 1) := by decide +kernel
set_option maxRecDepth 20000 in
theorem ggX5_rank_X5_own : GoodIn wsX5_rank wsX5_own := goodIn_r _ [9, 10, 11, 12, 13, 14, 15, 16, 17, 18, 19, 20, 21, 22, 23, 24, 25, 26, 27, 28] (by decide +kernel) (by decide +kernel)
set_option maxRecDepth 20000 in
theorem gX5_rank_X5_own : GoodIn wsX5_rank (wsV RX5 94 RX5 yX5_own wsX5_own) := goodIn_app (goodIn_of _ (by decide +kernel)) ggX5_rank_X5_own
theorem dX5_rank_0 : decode cX5_rank 0 = .ok (.aload_n 0, 1) := by decide +kernel
theorem dX5_rank_1 : decode cX5_rank 1 = .ok (.iconst 0, 1) := by decide +kernel
theorem dX5_rank_2 : decode cX5_rank 2 = .ok (.putfield 43, 3) := by decide +kernel
theorem dX5_rank_5 : decode cX5_rank 5 = .ok (.aload_n 0, 1) := by decide +kernel
theorem dX5_rank_6 : decode cX5_rank 6 = .ok (.invokevirtual 94, 3) := by decide +kernel
theorem dX5_rank_9 : decode cX5_rank 9 = .ok (.lstore_n 1, 1) := by decide +kernel
theorem dX5_rank_10 : decode cX5_rank 10 = .ok (.iconst 0, 1) := by decide +kernel
theorem dX5_rank_11 : decode cX5_rank 11 = .ok (.istore_n 3, 1) := by decide +kernel
theorem dX5_rank_12 : decode cX5_rank 12 = .ok (.iconst 0, 1) := by decide +kernel
theorem dX5_rank_13 : decode cX5_rank 13 = .ok (.istore 4, 2) := by decide +kernel
theorem dX5_rank_15 : decode cX5_rank 15 = .ok (.iload 4, 2) := by decide +kernel
theorem dX5_rank_17 : decode cX5_rank 17 = .ok (.aload_n 0, 1) := by decide +kernel
theorem dX5_rank_18 : decode cX5_rank 18 = .ok (.getfield 67, 3) := by decide +kernel
theorem dX5_rank_21 : decode cX5_rank 21 = .ok (.if_icmp .ge 35, 3) := by decide +kernel
theorem dX5_rank_24 : decode cX5_rank 24 = .ok (.iload_n 3, 1) := by decide +kernel
theorem dX5_rank_25 : decode cX5_rank 25 = .ok (.aload_n 0, 1) := by decide +kernel
theorem dX5_rank_26 : decode cX5_rank 26 = .ok (.getfield 17, 3) := by decide +kernel
theorem dX5_rank_29 : decode cX5_rank 29 = .ok (.iload 4, 2) := by decide +kernel
theorem dX5_rank_31 : decode cX5_rank 31 = .ok (.laload, 1) := by decide +kernel
theorem dX5_rank_32 : decode cX5_rank 32 = .ok (.lload_n 1, 1) := by decide +kernel
theorem dX5_rank_33 : decode cX5_rank 33 = .ok (.lcmp, 1) := by decide +kernel
theorem dX5_rank_34 : decode cX5_rank 34 = .ok (.ifCond .ge 13, 3) := by decide +kernel
theorem dX5_rank_37 : decode cX5_rank 37 = .ok (.aload_n 0, 1) := by decide +kernel
theorem dX5_rank_38 : decode cX5_rank 38 = .ok (.getfield 21, 3) := by decide +kernel
theorem dX5_rank_41 : decode cX5_rank 41 = .ok (.iload 4, 2) := by decide +kernel
theorem dX5_rank_43 : decode cX5_rank 43 = .ok (.iaload, 1) := by decide +kernel
theorem dX5_rank_44 : decode cX5_rank 44 = .ok (.goto 4, 3) := by decide +kernel
theorem dX5_rank_47 : decode cX5_rank 47 = .ok (.iconst 0, 1) := by decide +kernel
theorem dX5_rank_48 : decode cX5_rank 48 = .ok (.iadd, 1) := by decide +kernel
theorem dX5_rank_49 : decode cX5_rank 49 = .ok (.istore_n 3, 1) := by decide +kernel
theorem dX5_rank_50 : decode cX5_rank 50 = .ok (.iinc 4 1, 3) := by decide +kernel
theorem dX5_rank_53 : decode cX5_rank 53 = .ok (.goto (-38), 3) := by decide +kernel
theorem dX5_rank_56 : decode cX5_rank 56 = .ok (.iload_n 3, 1) := by decide +kernel
theorem dX5_rank_57 : decode cX5_rank 57 = .ok (.ireturn, 1) := by decide +kernel
set_option maxRecDepth 20000 in
theorem ggX5_beginOf_X5_begins : GoodIn wsX5_beginOf wsX5_begins := goodIn_r _ [7, 8, 9, 6, 10, 11, 12, 13, 14, 15, 16, 17, 18, 19, 20] (by decide +kernel) (by decide +kernel)
set_option maxRecDepth 20000 in
theorem gX5_beginOf_X5_begins : GoodIn wsX5_beginOf (va_wsS RX5 70 yX5_begins wsX5_begins) := goodIn_app (goodIn_of _ (by decide +kernel)) ggX5_beginOf_X5_begins
theorem dX5_beginOf_0 : decode cX5_beginOf 0 = .ok (.iconst 0, 1) := by decide +kernel
theorem dX5_beginOf_1 : decode cX5_beginOf 1 = .ok (.istore_n 3, 1) := by decide +kernel
theorem dX5_beginOf_2 : decode cX5_beginOf 2 = .ok (.iconst 0, 1) := by decide +kernel
theorem dX5_beginOf_3 : decode cX5_beginOf 3 = .ok (.istore 4, 2) := by decide +kernel
theorem dX5_beginOf_5 : decode cX5_beginOf 5 = .ok (.iload 4, 2) := by decide +kernel
theorem dX5_beginOf_7 : decode cX5_beginOf 7 = .ok (.aload_n 0, 1) := by decide +kernel
theorem dX5_beginOf_8 : decode cX5_beginOf 8 = .ok (.getfield 67, 3) := by decide +kernel
theorem dX5_beginOf_11 : decode cX5_beginOf 11 = .ok (.if_icmp .ge 37, 3) := by decide +kernel
theorem dX5_beginOf_14 : decode cX5_beginOf 14 = .ok (.iload_n 3, 1) := by decide +kernel
theorem dX5_beginOf_15 : decode cX5_beginOf 15 = .ok (.aload_n 0, 1) := by decide +kernel
theorem dX5_beginOf_16 : decode cX5_beginOf 16 = .ok (.getfield 17, 3) := by decide +kernel
theorem dX5_beginOf_19 : decode cX5_beginOf 19 = .ok (.iload 4, 2) := by decide +kernel
theorem dX5_beginOf_21 : decode cX5_beginOf 21 = .ok (.laload, 1) := by decide +kernel
theorem dX5_beginOf_22 : decode cX5_beginOf 22 = .ok (.lload_n 1, 1) := by decide +kernel
theorem dX5_beginOf_23 : decode cX5_beginOf 23 = .ok (.invokestatic 70, 3) := by decide +kernel
theorem dX5_beginOf_26 : decode cX5_beginOf 26 = .ok (.ifCond .eq 13, 3) := by decide +kernel
theorem dX5_beginOf_29 : decode cX5_beginOf 29 = .ok (.aload_n 0, 1) := by decide +kernel
theorem dX5_beginOf_30 : decode cX5_beginOf 30 = .ok (.getfield 21, 3) := by decide +kernel
theorem dX5_beginOf_33 : decode cX5_beginOf 33 = .ok (.iload 4, 2) := by decide +kernel
theorem dX5_beginOf_35 : decode cX5_beginOf 35 = .ok (.iaload, 1) := by decide +kernel
theorem dX5_beginOf_36 : decode cX5_beginOf 36 = .ok (.goto 4, 3) := by decide +kernel
theorem dX5_beginOf_39 : decode cX5_beginOf 39 = .ok (.iconst 0, 1) := by decide +kernel
theorem dX5_beginOf_40 : decode cX5_beginOf 40 = .ok (.iadd, 1) := by decide +kernel
theorem dX5_beginOf_41 : decode cX5_beginOf 41 = .ok (.istore_n 3, 1) := by decide +kernel
theorem dX5_beginOf_42 : decode cX5_beginOf 42 = .ok (.iinc 4 1, 3) := by decide +kernel
theorem dX5_beginOf_45 : decode cX5_beginOf 45 = .ok (.goto (-40), 3) := by decide +kernel
theorem dX5_beginOf_48 : decode cX5_beginOf 48 = .ok (.iload_n 3, 1) := by decide +kernel
theorem dX5_beginOf_49 : decode cX5_beginOf 49 = .ok (.ireturn, 1) := by decide +kernel
set_option maxRecDepth 20000 in
theorem ggX5_begin_X5_own : GoodIn wsX5_begin wsX5_own := goodIn_r _ [6, 7, 8, 9, 32, 33, 34, 35, 36, 37, 38, 39, 40, 41, 42, 43, 44, 45, 46, 47] (by decide +kernel) (by decide +kernel)
set_option maxRecDepth 20000 in
theorem gX5_begin_X5_own : GoodIn wsX5_begin (wsV RX5 94 RX5 yX5_own wsX5_own) := goodIn_app (goodIn_of _ (by decide +kernel)) ggX5_begin_X5_own
set_option maxRecDepth 20000 in
theorem ggX5_begin_X5_beginOf : GoodIn wsX5_begin wsX5_beginOf := goodIn_r _ [13, 14, 15, 16, 17, 18, 5, 19, 20, 21, 22, 23, 24, 25, 7, 26, 27, 28, 29, 30, 31, 32, 33, 34, 35, 36, 37, 38, 39, 40, 41, 42, 43, 44, 45, 46, 47] (by decide +kernel) (by decide +kernel)
set_option maxRecDepth 20000 in
theorem gX5_begin_X5_beginOf : GoodIn wsX5_begin (wsV RX5 114 RX5 yX5_beginOf wsX5_beginOf) := goodIn_app (goodIn_of _ (by decide +kernel)) ggX5_begin_X5_beginOf
theorem dX5_begin_0 : decode cX5_begin 0 = .ok (.aload_n 0, 1) := by decide +kernel
theorem dX5_begin_1 : decode cX5_begin 1 = .ok (.iconst 0, 1) := by decide +kernel
theorem dX5_begin_2 : decode cX5_begin 2 = .ok (.putfield 43, 3) := by decide +kernel
theorem dX5_begin_5 : decode cX5_begin 5 = .ok (.aload_n 0, 1) := by decide +kernel
theorem dX5_begin_6 : decode cX5_begin 6 = .ok (.aload_n 0, 1) := by decide +kernel
theorem dX5_begin_7 : decode cX5_begin 7 = .ok (.invokevirtual 94, 3) := by decide +kernel
theorem dX5_begin_10 : decode cX5_begin 10 = .ok (.invokevirtual 114, 3) := by decide +kernel
theorem dX5_begin_13 : decode cX5_begin 13 = .ok (.ireturn, 1) := by decide +kernel
set_option maxRecDepth 20000 in
theorem ggX5_depth_X5_own : GoodIn wsX5_depth wsX5_own := goodIn_r _ [6, 7, 8, 9, 32, 33, 34, 35, 36, 37, 38, 39, 40, 41, 42, 43, 44, 45, 46, 47] (by decide +kernel) (by decide +kernel)
set_option maxRecDepth 20000 in
theorem gX5_depth_X5_own : GoodIn wsX5_depth (wsV RX5 94 RX5 yX5_own wsX5_own) := goodIn_app (goodIn_of _ (by decide +kernel)) ggX5_depth_X5_own
set_option maxRecDepth 20000 in
theorem ggX5_depth_X5_depthOf : GoodIn wsX5_depth wsX5_depthOf := goodIn_r _ [13, 14, 15, 5, 16, 17, 18, 19, 7, 20, 21, 22, 23, 24, 25, 26, 27, 28, 29, 30, 31, 32, 33, 34, 35, 36, 37, 38, 39, 40, 41, 42, 43, 44, 45, 46, 47] (by decide +kernel) (by decide +kernel)
set_option maxRecDepth 20000 in
theorem gX5_depth_X5_depthOf : GoodIn wsX5_depth (wsV RX5 117 RX5 yX5_depthOf wsX5_depthOf) := goodIn_app (goodIn_of _ (by decide +kernel)) ggX5_depth_X5_depthOf
theorem dX5_depth_0 : decode cX5_depth 0 = .ok (.aload_n 0, 1) := by decide +kernel
theorem dX5_depth_1 : decode cX5_depth 1 = .ok (.iconst 0, 1) := by decide +kernel
theorem dX5_depth_2 : decode cX5_depth 2 = .ok (.putfield 43, 3) := by decide +kernel
theorem dX5_depth_5 : decode cX5_depth 5 = .ok (.aload_n 0, 1) := by decide +kernel
theorem dX5_depth_6 : decode cX5_depth 6 = .ok (.aload_n 0, 1) := by decide +kernel
theorem dX5_depth_7 : decode cX5_depth 7 = .ok (.invokevirtual 94, 3) := by decide +kernel
theorem dX5_depth_10 : decode cX5_depth 10 = .ok (.invokevirtual 117, 3) := by decide +kernel
theorem dX5_depth_13 : decode cX5_depth 13 = .ok (.ireturn, 1) := by decide +kernel
set_option maxRecDepth 20000 in
theorem ggX5_container_X5_in : GoodIn wsX5_container wsX5_in := goodIn_r _ [5] (by decide +kernel) (by decide +kernel)
set_option maxRecDepth 20000 in
theorem gX5_container_X5_in : GoodIn wsX5_container (va_wsS RX5 81 yX5_in wsX5_in) := goodIn_app (goodIn_of _ (by decide +kernel)) ggX5_container_X5_in
set_option maxRecDepth 20000 in
theorem ggX5_container_X5_own : GoodIn wsX5_container wsX5_own := goodIn_r _ [9, 10, 11, 12, 44, 45, 46, 47, 48, 49, 50, 51, 52, 53, 54, 55, 56, 57, 58, 59] (by decide +kernel) (by decide +kernel)
set_option maxRecDepth 20000 in
theorem gX5_container_X5_own : GoodIn wsX5_container (wsV RX5 94 RX5 yX5_own wsX5_own) := goodIn_app (goodIn_of _ (by decide +kernel)) ggX5_container_X5_own
set_option maxRecDepth 20000 in
theorem ggX5_container_X5_containerSize : GoodIn wsX5_container wsX5_containerSize := goodIn_r _ [16, 17, 18, 4, 19, 20, 21, 22, 10, 23, 24, 25, 26, 27, 28, 29, 30, 31, 32, 33, 34, 44, 45, 46, 47, 48, 49, 50, 51, 52, 53, 54, 55, 56, 57, 58, 59] (by decide +kernel) (by decide +kernel)
set_option maxRecDepth 20000 in
theorem gX5_container_X5_containerSize : GoodIn wsX5_container (wsV RX5 88 RX5 yX5_containerSize wsX5_containerSize) := goodIn_app (goodIn_of _ (by decide +kernel)) ggX5_container_X5_containerSize
set_option maxRecDepth 20000 in
theorem ggX5_container_X5_head : GoodIn wsX5_container wsX5_head := goodIn_r _ [28, 23, 24, 4, 25, 10] (by decide +kernel) (by decide +kernel)
set_option maxRecDepth 20000 in
theorem gX5_container_X5_head : GoodIn wsX5_container (va_wsS RX5 63 yX5_head wsX5_head) := goodIn_app (goodIn_of _ (by decide +kernel)) ggX5_container_X5_head
set_option maxRecDepth 20000 in
theorem ggX5_container_X5_beginning : GoodIn wsX5_container wsX5_beginning := goodIn_r _ [38, 39, 40, 41, 42, 4, 43, 17, 18, 19, 20, 21, 22, 10, 23, 24, 25, 26, 27, 28, 44, 45, 46, 47, 48, 49, 50, 51, 52, 53, 54, 55, 56, 57, 58, 59] (by decide +kernel) (by decide +kernel)
set_option maxRecDepth 20000 in
theorem gX5_container_X5_beginning : GoodIn wsX5_container (wsV RX5 91 RX5 yX5_beginning wsX5_beginning) := goodIn_app (goodIn_of _ (by decide +kernel)) ggX5_container_X5_beginning
theorem dX5_container_0 : decode cX5_container 0 = .ok (.aload_n 0, 1) := by decide +kernel
theorem dX5_container_1 : decode cX5_container 1 = .ok (.iconst 0, 1) := by decide +kernel
theorem dX5_container_2 : decode cX5_container 2 = .ok (.putfield 43, 3) := by decide +kernel
theorem dX5_container_5 : decode cX5_container 5 = .ok (.iload_n 1, 1) := by decide +kernel
theorem dX5_container_6 : decode cX5_container 6 = .ok (.iconst 0, 1) := by decide +kernel
theorem dX5_container_7 : decode cX5_container 7 = .ok (.iconst 1, 1) := by decide +kernel
theorem dX5_container_8 : decode cX5_container 8 = .ok (.invokestatic 81, 3) := by decide +kernel
theorem dX5_container_11 : decode cX5_container 11 = .ok (.ifCond .ne 5, 3) := by decide +kernel
theorem dX5_container_14 : decode cX5_container 14 = .ok (.iconst (-1), 1) := by decide +kernel
theorem dX5_container_15 : decode cX5_container 15 = .ok (.ireturn, 1) := by decide +kernel
theorem dX5_container_16 : decode cX5_container 16 = .ok (.aload_n 0, 1) := by decide +kernel
theorem dX5_container_17 : decode cX5_container 17 = .ok (.aload_n 0, 1) := by decide +kernel
theorem dX5_container_18 : decode cX5_container 18 = .ok (.invokevirtual 94, 3) := by decide +kernel
theorem dX5_container_21 : decode cX5_container 21 = .ok (.invokevirtual 88, 3) := by decide +kernel
theorem dX5_container_24 : decode cX5_container 24 = .ok (.istore_n 2, 1) := by decide +kernel
theorem dX5_container_25 : decode cX5_container 25 = .ok (.iload_n 2, 1) := by decide +kernel
theorem dX5_container_26 : decode cX5_container 26 = .ok (.ifCond .ge 7, 3) := by decide +kernel
theorem dX5_container_29 : decode cX5_container 29 = .ok (.iconst 0, 1) := by decide +kernel
theorem dX5_container_30 : decode cX5_container 30 = .ok (.goto 15, 3) := by decide +kernel
theorem dX5_container_33 : decode cX5_container 33 = .ok (.aload_n 0, 1) := by decide +kernel
theorem dX5_container_34 : decode cX5_container 34 = .ok (.aload_n 0, 1) := by decide +kernel
theorem dX5_container_35 : decode cX5_container 35 = .ok (.invokevirtual 94, 3) := by decide +kernel
theorem dX5_container_38 : decode cX5_container 38 = .ok (.iload_n 2, 1) := by decide +kernel
theorem dX5_container_39 : decode cX5_container 39 = .ok (.invokestatic 63, 3) := by decide +kernel
theorem dX5_container_42 : decode cX5_container 42 = .ok (.invokevirtual 91, 3) := by decide +kernel
theorem dX5_container_45 : decode cX5_container 45 = .ok (.istore_n 3, 1) := by decide +kernel
theorem dX5_container_46 : decode cX5_container 46 = .ok (.iload_n 3, 1) := by decide +kernel
theorem dX5_container_47 : decode cX5_container 47 = .ok (.ifCond .ne 8, 3) := by decide +kernel
theorem dX5_container_50 : decode cX5_container 50 = .ok (.bipush (-9), 2) := by decide +kernel
theorem dX5_container_52 : decode cX5_container 52 = .ok (.goto 12, 3) := by decide +kernel
theorem dX5_container_55 : decode cX5_container 55 = .ok (.iload_n 1, 1) := by decide +kernel
theorem dX5_container_56 : decode cX5_container 56 = .ok (.ifCond .ne 7, 3) := by decide +kernel
theorem dX5_container_59 : decode cX5_container 59 = .ok (.iload_n 3, 1) := by decide +kernel
theorem dX5_container_60 : decode cX5_container 60 = .ok (.goto 4, 3) := by decide +kernel
theorem dX5_container_63 : decode cX5_container 63 = .ok (.iload_n 2, 1) := by decide +kernel
theorem dX5_container_64 : decode cX5_container 64 = .ok (.ireturn, 1) := by decide +kernel
set_option maxRecDepth 20000 in
theorem ggX5_telling_X5_own : GoodIn wsX5_telling wsX5_own := goodIn_r _ [7, 8, 2, 9, 35, 36, 37, 38, 39, 40, 41, 42, 43, 44, 45, 46, 47, 48, 49, 50] (by decide +kernel) (by decide +kernel)
set_option maxRecDepth 20000 in
theorem gX5_telling_X5_own : GoodIn wsX5_telling (wsV RX5 94 RX5 yX5_own wsX5_own) := goodIn_app (goodIn_of _ (by decide +kernel)) ggX5_telling_X5_own
set_option maxRecDepth 20000 in
theorem ggX5_telling_X5_placeOf : GoodIn wsX5_telling wsX5_placeOf := goodIn_r _ [13, 14, 15, 35, 36, 37, 38, 39, 40, 41, 42, 43, 44, 45, 46, 47, 48, 49, 50] (by decide +kernel) (by decide +kernel)
set_option maxRecDepth 20000 in
theorem gX5_telling_X5_placeOf : GoodIn wsX5_telling (wsV RX5 98 RX5 yX5_placeOf wsX5_placeOf) := goodIn_app (goodIn_of _ (by decide +kernel)) ggX5_telling_X5_placeOf
set_option maxRecDepth 20000 in
theorem ggX5_telling_X5_head : GoodIn wsX5_telling wsX5_head := goodIn_r _ [18, 19, 20, 6, 21, 8] (by decide +kernel) (by decide +kernel)
set_option maxRecDepth 20000 in
theorem gX5_telling_X5_head : GoodIn wsX5_telling (va_wsS RX5 63 yX5_head wsX5_head) := goodIn_app (goodIn_of _ (by decide +kernel)) ggX5_telling_X5_head
set_option maxRecDepth 20000 in
theorem ggX5_telling_X5_beginning : GoodIn wsX5_telling wsX5_beginning := goodIn_r _ [25, 14, 15, 26, 27, 6, 28, 29, 30, 31, 32, 33, 34, 8, 19, 20, 21, 16, 17, 18, 35, 36, 37, 38, 39, 40, 41, 42, 43, 44, 45, 46, 47, 48, 49, 50] (by decide +kernel) (by decide +kernel)
set_option maxRecDepth 20000 in
theorem gX5_telling_X5_beginning : GoodIn wsX5_telling (wsV RX5 91 RX5 yX5_beginning wsX5_beginning) := goodIn_app (goodIn_of _ (by decide +kernel)) ggX5_telling_X5_beginning
theorem dX5_telling_0 : decode cX5_telling 0 = .ok (.aload_n 0, 1) := by decide +kernel
theorem dX5_telling_1 : decode cX5_telling 1 = .ok (.iconst 0, 1) := by decide +kernel
theorem dX5_telling_2 : decode cX5_telling 2 = .ok (.putfield 43, 3) := by decide +kernel
theorem dX5_telling_5 : decode cX5_telling 5 = .ok (.aload_n 0, 1) := by decide +kernel
theorem dX5_telling_6 : decode cX5_telling 6 = .ok (.invokevirtual 94, 3) := by decide +kernel
theorem dX5_telling_9 : decode cX5_telling 9 = .ok (.lstore_n 1, 1) := by decide +kernel
theorem dX5_telling_10 : decode cX5_telling 10 = .ok (.aload_n 0, 1) := by decide +kernel
theorem dX5_telling_11 : decode cX5_telling 11 = .ok (.lload_n 1, 1) := by decide +kernel
theorem dX5_telling_12 : decode cX5_telling 12 = .ok (.invokevirtual 98, 3) := by decide +kernel
theorem dX5_telling_15 : decode cX5_telling 15 = .ok (.ifCond .ge 6, 3) := by decide +kernel
theorem dX5_telling_18 : decode cX5_telling 18 = .ok (.bipush (-9), 2) := by decide +kernel
theorem dX5_telling_20 : decode cX5_telling 20 = .ok (.ireturn, 1) := by decide +kernel
theorem dX5_telling_21 : decode cX5_telling 21 = .ok (.iconst 0, 1) := by decide +kernel
theorem dX5_telling_22 : decode cX5_telling 22 = .ok (.istore_n 3, 1) := by decide +kernel
theorem dX5_telling_23 : decode cX5_telling 23 = .ok (.iload_n 3, 1) := by decide +kernel
theorem dX5_telling_24 : decode cX5_telling 24 = .ok (.aload_n 0, 1) := by decide +kernel
theorem dX5_telling_25 : decode cX5_telling 25 = .ok (.getfield 56, 3) := by decide +kernel
theorem dX5_telling_28 : decode cX5_telling 28 = .ok (.if_icmp .gt 22, 3) := by decide +kernel
theorem dX5_telling_31 : decode cX5_telling 31 = .ok (.aload_n 0, 1) := by decide +kernel
theorem dX5_telling_32 : decode cX5_telling 32 = .ok (.lload_n 1, 1) := by decide +kernel
theorem dX5_telling_33 : decode cX5_telling 33 = .ok (.iload_n 3, 1) := by decide +kernel
theorem dX5_telling_34 : decode cX5_telling 34 = .ok (.invokestatic 63, 3) := by decide +kernel
theorem dX5_telling_37 : decode cX5_telling 37 = .ok (.invokevirtual 91, 3) := by decide +kernel
theorem dX5_telling_40 : decode cX5_telling 40 = .ok (.iconst 1, 1) := by decide +kernel
theorem dX5_telling_41 : decode cX5_telling 41 = .ok (.if_icmp .le 9, 3) := by decide +kernel
theorem dX5_telling_44 : decode cX5_telling 44 = .ok (.iinc 3 1, 3) := by decide +kernel
theorem dX5_telling_47 : decode cX5_telling 47 = .ok (.goto (-24), 3) := by decide +kernel
theorem dX5_telling_50 : decode cX5_telling 50 = .ok (.iload_n 3, 1) := by decide +kernel
theorem dX5_telling_51 : decode cX5_telling 51 = .ok (.ireturn, 1) := by decide +kernel
set_option maxRecDepth 20000 in
theorem ggX5_longest_X5_own : GoodIn wsX5_longest wsX5_own := goodIn_r _ [8, 9, 10, 11, 27, 28, 29, 30, 31, 32, 33, 34, 35, 36, 37, 38, 39, 40, 41, 42] (by decide +kernel) (by decide +kernel)
set_option maxRecDepth 20000 in
theorem gX5_longest_X5_own : GoodIn wsX5_longest (wsV RX5 94 RX5 yX5_own wsX5_own) := goodIn_app (goodIn_of _ (by decide +kernel)) ggX5_longest_X5_own
set_option maxRecDepth 20000 in
theorem ggX5_longest_X5_begins : GoodIn wsX5_longest wsX5_begins := goodIn_r _ [14, 15, 16, 7, 17, 18, 19, 20, 9, 21, 22, 23, 24, 25, 26] (by decide +kernel) (by decide +kernel)
set_option maxRecDepth 20000 in
theorem gX5_longest_X5_begins : GoodIn wsX5_longest (va_wsS RX5 70 yX5_begins wsX5_begins) := goodIn_app (goodIn_of _ (by decide +kernel)) ggX5_longest_X5_begins
set_option maxRecDepth 20000 in
theorem ggX5_longest_X5_size : GoodIn wsX5_longest wsX5_size := goodIn_r _ [17, 18, 19, 7, 20, 9, 21, 22, 23] (by decide +kernel) (by decide +kernel)
set_option maxRecDepth 20000 in
theorem gX5_longest_X5_size : GoodIn wsX5_longest (va_wsS RX5 59 yX5_size wsX5_size) := goodIn_app (goodIn_of _ (by decide +kernel)) ggX5_longest_X5_size
theorem dX5_longest_0 : decode cX5_longest 0 = .ok (.aload_n 0, 1) := by decide +kernel
theorem dX5_longest_1 : decode cX5_longest 1 = .ok (.iconst 0, 1) := by decide +kernel
theorem dX5_longest_2 : decode cX5_longest 2 = .ok (.putfield 43, 3) := by decide +kernel
theorem dX5_longest_5 : decode cX5_longest 5 = .ok (.bipush (-9), 2) := by decide +kernel
theorem dX5_longest_7 : decode cX5_longest 7 = .ok (.istore_n 1, 1) := by decide +kernel
theorem dX5_longest_8 : decode cX5_longest 8 = .ok (.iconst 0, 1) := by decide +kernel
theorem dX5_longest_9 : decode cX5_longest 9 = .ok (.istore_n 2, 1) := by decide +kernel
theorem dX5_longest_10 : decode cX5_longest 10 = .ok (.iload_n 2, 1) := by decide +kernel
theorem dX5_longest_11 : decode cX5_longest 11 = .ok (.aload_n 0, 1) := by decide +kernel
theorem dX5_longest_12 : decode cX5_longest 12 = .ok (.getfield 67, 3) := by decide +kernel
theorem dX5_longest_15 : decode cX5_longest 15 = .ok (.if_icmp .ge 52, 3) := by decide +kernel
theorem dX5_longest_18 : decode cX5_longest 18 = .ok (.aload_n 0, 1) := by decide +kernel
theorem dX5_longest_19 : decode cX5_longest 19 = .ok (.invokevirtual 94, 3) := by decide +kernel
theorem dX5_longest_22 : decode cX5_longest 22 = .ok (.aload_n 0, 1) := by decide +kernel
theorem dX5_longest_23 : decode cX5_longest 23 = .ok (.getfield 17, 3) := by decide +kernel
theorem dX5_longest_26 : decode cX5_longest 26 = .ok (.iload_n 2, 1) := by decide +kernel
theorem dX5_longest_27 : decode cX5_longest 27 = .ok (.laload, 1) := by decide +kernel
theorem dX5_longest_28 : decode cX5_longest 28 = .ok (.invokestatic 70, 3) := by decide +kernel
theorem dX5_longest_31 : decode cX5_longest 31 = .ok (.ifCond .eq 28, 3) := by decide +kernel
theorem dX5_longest_34 : decode cX5_longest 34 = .ok (.aload_n 0, 1) := by decide +kernel
theorem dX5_longest_35 : decode cX5_longest 35 = .ok (.getfield 17, 3) := by decide +kernel
theorem dX5_longest_38 : decode cX5_longest 38 = .ok (.iload_n 2, 1) := by decide +kernel
theorem dX5_longest_39 : decode cX5_longest 39 = .ok (.laload, 1) := by decide +kernel
theorem dX5_longest_40 : decode cX5_longest 40 = .ok (.invokestatic 59, 3) := by decide +kernel
theorem dX5_longest_43 : decode cX5_longest 43 = .ok (.iload_n 1, 1) := by decide +kernel
theorem dX5_longest_44 : decode cX5_longest 44 = .ok (.if_icmp .le 15, 3) := by decide +kernel
theorem dX5_longest_47 : decode cX5_longest 47 = .ok (.aload_n 0, 1) := by decide +kernel
theorem dX5_longest_48 : decode cX5_longest 48 = .ok (.getfield 17, 3) := by decide +kernel
theorem dX5_longest_51 : decode cX5_longest 51 = .ok (.iload_n 2, 1) := by decide +kernel
theorem dX5_longest_52 : decode cX5_longest 52 = .ok (.laload, 1) := by decide +kernel
theorem dX5_longest_53 : decode cX5_longest 53 = .ok (.invokestatic 59, 3) := by decide +kernel
theorem dX5_longest_56 : decode cX5_longest 56 = .ok (.goto 4, 3) := by decide +kernel
theorem dX5_longest_59 : decode cX5_longest 59 = .ok (.iload_n 1, 1) := by decide +kernel
theorem dX5_longest_60 : decode cX5_longest 60 = .ok (.istore_n 1, 1) := by decide +kernel
theorem dX5_longest_61 : decode cX5_longest 61 = .ok (.iinc 2 1, 3) := by decide +kernel
theorem dX5_longest_64 : decode cX5_longest 64 = .ok (.goto (-54), 3) := by decide +kernel
theorem dX5_longest_67 : decode cX5_longest 67 = .ok (.iload_n 1, 1) := by decide +kernel
theorem dX5_longest_68 : decode cX5_longest 68 = .ok (.ireturn, 1) := by decide +kernel
set_option maxRecDepth 20000 in
theorem ggX5_like_X5_in : GoodIn wsX5_like wsX5_in := goodIn_r _ [9] (by decide +kernel) (by decide +kernel)
set_option maxRecDepth 20000 in
theorem gX5_like_X5_in : GoodIn wsX5_like (va_wsS RX5 81 yX5_in wsX5_in) := goodIn_app (goodIn_of _ (by decide +kernel)) ggX5_like_X5_in
set_option maxRecDepth 20000 in
theorem ggX5_like_X5_sign : GoodIn wsX5_like wsX5_sign := goodIn_r _ [12, 13, 14, 15, 8, 16] (by decide +kernel) (by decide +kernel)
set_option maxRecDepth 20000 in
theorem gX5_like_X5_sign : GoodIn wsX5_like (va_wsS RX5 52 yX5_sign wsX5_sign) := goodIn_app (goodIn_of _ (by decide +kernel)) ggX5_like_X5_sign
set_option maxRecDepth 20000 in
theorem ggX5_like_X5_size : GoodIn wsX5_like wsX5_size := goodIn_r _ [19, 10, 11, 8, 12, 13, 14, 15, 16] (by decide +kernel) (by decide +kernel)
set_option maxRecDepth 20000 in
theorem gX5_like_X5_size : GoodIn wsX5_like (va_wsS RX5 59 yX5_size wsX5_size) := goodIn_app (goodIn_of _ (by decide +kernel)) ggX5_like_X5_size
end
section
theorem dX5_like_0 : decode cX5_like 0 = .ok (.aload_n 0, 1) := by decide +kernel
theorem dX5_like_1 : decode cX5_like 1 = .ok (.iconst 0, 1) := by decide +kernel
theorem dX5_like_2 : decode cX5_like 2 = .ok (.putfield 43, 3) := by decide +kernel
theorem dX5_like_5 : decode cX5_like 5 = .ok (.iload_n 1, 1) := by decide +kernel
theorem dX5_like_6 : decode cX5_like 6 = .ok (.iconst 0, 1) := by decide +kernel
theorem dX5_like_7 : decode cX5_like 7 = .ok (.bipush 7, 2) := by decide +kernel
theorem dX5_like_9 : decode cX5_like 9 = .ok (.invokestatic 81, 3) := by decide +kernel
theorem dX5_like_12 : decode cX5_like 12 = .ok (.ifCond .ne 5, 3) := by decide +kernel
theorem dX5_like_15 : decode cX5_like 15 = .ok (.iconst (-1), 1) := by decide +kernel
theorem dX5_like_16 : decode cX5_like 16 = .ok (.ireturn, 1) := by decide +kernel
theorem dX5_like_17 : decode cX5_like 17 = .ok (.iconst 0, 1) := by decide +kernel
theorem dX5_like_18 : decode cX5_like 18 = .ok (.istore_n 2, 1) := by decide +kernel
theorem dX5_like_19 : decode cX5_like 19 = .ok (.iconst 0, 1) := by decide +kernel
theorem dX5_like_20 : decode cX5_like 20 = .ok (.istore_n 3, 1) := by decide +kernel
theorem dX5_like_21 : decode cX5_like 21 = .ok (.iload_n 3, 1) := by decide +kernel
theorem dX5_like_22 : decode cX5_like 22 = .ok (.aload_n 0, 1) := by decide +kernel
theorem dX5_like_23 : decode cX5_like 23 = .ok (.getfield 67, 3) := by decide +kernel
theorem dX5_like_26 : decode cX5_like 26 = .ok (.if_icmp .ge 91, 3) := by decide +kernel
theorem dX5_like_29 : decode cX5_like 29 = .ok (.iconst 0, 1) := by decide +kernel
theorem dX5_like_30 : decode cX5_like 30 = .ok (.istore 4, 2) := by decide +kernel
theorem dX5_like_32 : decode cX5_like 32 = .ok (.iconst 0, 1) := by decide +kernel
theorem dX5_like_33 : decode cX5_like 33 = .ok (.istore 5, 2) := by decide +kernel
theorem dX5_like_35 : decode cX5_like 35 = .ok (.iload 5, 2) := by decide +kernel
theorem dX5_like_37 : decode cX5_like 37 = .ok (.aload_n 0, 1) := by decide +kernel
theorem dX5_like_38 : decode cX5_like 38 = .ok (.getfield 56, 3) := by decide +kernel
theorem dX5_like_41 : decode cX5_like 41 = .ok (.if_icmp .ge 40, 3) := by decide +kernel
theorem dX5_like_44 : decode cX5_like 44 = .ok (.iload 4, 2) := by decide +kernel
theorem dX5_like_46 : decode cX5_like 46 = .ok (.aload_n 0, 1) := by decide +kernel
theorem dX5_like_47 : decode cX5_like 47 = .ok (.getfield 17, 3) := by decide +kernel
theorem dX5_like_50 : decode cX5_like 50 = .ok (.iload_n 3, 1) := by decide +kernel
theorem dX5_like_51 : decode cX5_like 51 = .ok (.laload, 1) := by decide +kernel
theorem dX5_like_52 : decode cX5_like 52 = .ok (.iload 5, 2) := by decide +kernel
theorem dX5_like_54 : decode cX5_like 54 = .ok (.invokestatic 52, 3) := by decide +kernel
theorem dX5_like_57 : decode cX5_like 57 = .ok (.aload_n 0, 1) := by decide +kernel
theorem dX5_like_58 : decode cX5_like 58 = .ok (.getfield 7, 3) := by decide +kernel
theorem dX5_like_61 : decode cX5_like 61 = .ok (.iload 5, 2) := by decide +kernel
theorem dX5_like_63 : decode cX5_like 63 = .ok (.iaload, 1) := by decide +kernel
theorem dX5_like_64 : decode cX5_like 64 = .ok (.if_icmp .ne 7, 3) := by decide +kernel
theorem dX5_like_67 : decode cX5_like 67 = .ok (.iconst 0, 1) := by decide +kernel
theorem dX5_like_68 : decode cX5_like 68 = .ok (.goto 4, 3) := by decide +kernel
theorem dX5_like_71 : decode cX5_like 71 = .ok (.iconst 1, 1) := by decide +kernel
theorem dX5_like_72 : decode cX5_like 72 = .ok (.iadd, 1) := by decide +kernel
theorem dX5_like_73 : decode cX5_like 73 = .ok (.istore 4, 2) := by decide +kernel
theorem dX5_like_75 : decode cX5_like 75 = .ok (.iinc 5 1, 3) := by decide +kernel
theorem dX5_like_78 : decode cX5_like 78 = .ok (.goto (-43), 3) := by decide +kernel
theorem dX5_like_81 : decode cX5_like 81 = .ok (.iload_n 2, 1) := by decide +kernel
theorem dX5_like_82 : decode cX5_like 82 = .ok (.aload_n 0, 1) := by decide +kernel
theorem dX5_like_83 : decode cX5_like 83 = .ok (.getfield 17, 3) := by decide +kernel
theorem dX5_like_86 : decode cX5_like 86 = .ok (.iload_n 3, 1) := by decide +kernel
theorem dX5_like_87 : decode cX5_like 87 = .ok (.laload, 1) := by decide +kernel
theorem dX5_like_88 : decode cX5_like 88 = .ok (.invokestatic 59, 3) := by decide +kernel
theorem dX5_like_91 : decode cX5_like 91 = .ok (.aload_n 0, 1) := by decide +kernel
theorem dX5_like_92 : decode cX5_like 92 = .ok (.getfield 56, 3) := by decide +kernel
theorem dX5_like_95 : decode cX5_like 95 = .ok (.if_icmp .ne 13, 3) := by decide +kernel
theorem dX5_like_98 : decode cX5_like 98 = .ok (.iload 4, 2) := by decide +kernel
theorem dX5_like_100 : decode cX5_like 100 = .ok (.iload_n 1, 1) := by decide +kernel
theorem dX5_like_101 : decode cX5_like 101 = .ok (.if_icmp .gt 7, 3) := by decide +kernel
theorem dX5_like_104 : decode cX5_like 104 = .ok (.iconst 1, 1) := by decide +kernel
theorem dX5_like_105 : decode cX5_like 105 = .ok (.goto 4, 3) := by decide +kernel
theorem dX5_like_108 : decode cX5_like 108 = .ok (.iconst 0, 1) := by decide +kernel
theorem dX5_like_109 : decode cX5_like 109 = .ok (.iadd, 1) := by decide +kernel
theorem dX5_like_110 : decode cX5_like 110 = .ok (.istore_n 2, 1) := by decide +kernel
theorem dX5_like_111 : decode cX5_like 111 = .ok (.iinc 3 1, 3) := by decide +kernel
theorem dX5_like_114 : decode cX5_like 114 = .ok (.goto (-93), 3) := by decide +kernel
theorem dX5_like_117 : decode cX5_like 117 = .ok (.iload_n 2, 1) := by decide +kernel
theorem dX5_like_118 : decode cX5_like 118 = .ok (.ireturn, 1) := by decide +kernel
theorem dX5_gcd_0 : decode cX5_gcd 0 = .ok (.iload_n 0, 1) := by decide +kernel
theorem dX5_gcd_1 : decode cX5_gcd 1 = .ok (.istore_n 2, 1) := by decide +kernel
theorem dX5_gcd_2 : decode cX5_gcd 2 = .ok (.iload_n 1, 1) := by decide +kernel
theorem dX5_gcd_3 : decode cX5_gcd 3 = .ok (.istore_n 3, 1) := by decide +kernel
theorem dX5_gcd_4 : decode cX5_gcd 4 = .ok (.iload_n 3, 1) := by decide +kernel
theorem dX5_gcd_5 : decode cX5_gcd 5 = .ok (.ifCond .eq 16, 3) := by decide +kernel
theorem dX5_gcd_8 : decode cX5_gcd 8 = .ok (.iload_n 2, 1) := by decide +kernel
theorem dX5_gcd_9 : decode cX5_gcd 9 = .ok (.iload_n 3, 1) := by decide +kernel
theorem dX5_gcd_10 : decode cX5_gcd 10 = .ok (.irem, 1) := by decide +kernel
theorem dX5_gcd_11 : decode cX5_gcd 11 = .ok (.istore 4, 2) := by decide +kernel
theorem dX5_gcd_13 : decode cX5_gcd 13 = .ok (.iload_n 3, 1) := by decide +kernel
theorem dX5_gcd_14 : decode cX5_gcd 14 = .ok (.istore_n 2, 1) := by decide +kernel
theorem dX5_gcd_15 : decode cX5_gcd 15 = .ok (.iload 4, 2) := by decide +kernel
theorem dX5_gcd_17 : decode cX5_gcd 17 = .ok (.istore_n 3, 1) := by decide +kernel
theorem dX5_gcd_18 : decode cX5_gcd 18 = .ok (.goto (-14), 3) := by decide +kernel
theorem dX5_gcd_21 : decode cX5_gcd 21 = .ok (.iload_n 2, 1) := by decide +kernel
theorem dX5_gcd_22 : decode cX5_gcd 22 = .ok (.ireturn, 1) := by decide +kernel
theorem dX5_all_0 : decode cX5_all 0 = .ok (.iconst 0, 1) := by decide +kernel
theorem dX5_all_1 : decode cX5_all 1 = .ok (.istore_n 1, 1) := by decide +kernel
theorem dX5_all_2 : decode cX5_all 2 = .ok (.iconst 0, 1) := by decide +kernel
theorem dX5_all_3 : decode cX5_all 3 = .ok (.istore_n 2, 1) := by decide +kernel
theorem dX5_all_4 : decode cX5_all 4 = .ok (.iload_n 2, 1) := by decide +kernel
theorem dX5_all_5 : decode cX5_all 5 = .ok (.aload_n 0, 1) := by decide +kernel
theorem dX5_all_6 : decode cX5_all 6 = .ok (.getfield 67, 3) := by decide +kernel
theorem dX5_all_9 : decode cX5_all 9 = .ok (.if_icmp .ge 18, 3) := by decide +kernel
theorem dX5_all_12 : decode cX5_all 12 = .ok (.iload_n 1, 1) := by decide +kernel
theorem dX5_all_13 : decode cX5_all 13 = .ok (.aload_n 0, 1) := by decide +kernel
theorem dX5_all_14 : decode cX5_all 14 = .ok (.getfield 21, 3) := by decide +kernel
theorem dX5_all_17 : decode cX5_all 17 = .ok (.iload_n 2, 1) := by decide +kernel
theorem dX5_all_18 : decode cX5_all 18 = .ok (.iaload, 1) := by decide +kernel
theorem dX5_all_19 : decode cX5_all 19 = .ok (.iadd, 1) := by decide +kernel
theorem dX5_all_20 : decode cX5_all 20 = .ok (.istore_n 1, 1) := by decide +kernel
theorem dX5_all_21 : decode cX5_all 21 = .ok (.iinc 2 1, 3) := by decide +kernel
theorem dX5_all_24 : decode cX5_all 24 = .ok (.goto (-20), 3) := by decide +kernel
theorem dX5_all_27 : decode cX5_all 27 = .ok (.iload_n 1, 1) := by decide +kernel
theorem dX5_all_28 : decode cX5_all 28 = .ok (.ireturn, 1) := by decide +kernel
set_option maxRecDepth 20000 in
theorem ggX5_odds_X5_in : GoodIn wsX5_odds wsX5_in := goodIn_r _ [5] (by decide +kernel) (by decide +kernel)
set_option maxRecDepth 20000 in
theorem gX5_odds_X5_in : GoodIn wsX5_odds (va_wsS RX5 81 yX5_in wsX5_in) := goodIn_app (goodIn_of _ (by decide +kernel)) ggX5_odds_X5_in
set_option maxRecDepth 20000 in
theorem ggX5_odds_X5_all : GoodIn wsX5_odds wsX5_all := goodIn_r _ [9, 10, 11, 42, 43, 44, 45, 46, 47, 48, 49, 50, 51, 52, 53, 54, 55, 56, 57] (by decide +kernel) (by decide +kernel)
set_option maxRecDepth 20000 in
theorem gX5_odds_X5_all : GoodIn wsX5_odds (wsV RX5 120 RX5 yX5_all wsX5_all) := goodIn_app (goodIn_of _ (by decide +kernel)) ggX5_odds_X5_all
set_option maxRecDepth 20000 in
theorem ggX5_odds_X5_own : GoodIn wsX5_odds wsX5_own := goodIn_r _ [15, 16, 17, 18, 42, 43, 44, 45, 46, 47, 48, 49, 50, 51, 52, 53, 54, 55, 56, 57] (by decide +kernel) (by decide +kernel)
set_option maxRecDepth 20000 in
theorem gX5_odds_X5_own : GoodIn wsX5_odds (wsV RX5 94 RX5 yX5_own wsX5_own) := goodIn_app (goodIn_of _ (by decide +kernel)) ggX5_odds_X5_own
set_option maxRecDepth 20000 in
theorem ggX5_odds_X5_beginOf : GoodIn wsX5_odds wsX5_beginOf := goodIn_r _ [22, 10, 23, 11, 24, 25, 4, 26, 27, 28, 29, 30, 31, 32, 16, 33, 34, 35, 36, 37, 38, 42, 43, 44, 45, 46, 47, 48, 49, 50, 51, 52, 53, 54, 55, 56, 57] (by decide +kernel) (by decide +kernel)
set_option maxRecDepth 20000 in
theorem gX5_odds_X5_beginOf : GoodIn wsX5_odds (wsV RX5 114 RX5 yX5_beginOf wsX5_beginOf) := goodIn_app (goodIn_of _ (by decide +kernel)) ggX5_odds_X5_beginOf
set_option maxRecDepth 20000 in
theorem ggX5_odds_X5_gcd : GoodIn wsX5_odds wsX5_gcd := goodIn_r _ [41] (by decide +kernel) (by decide +kernel)
set_option maxRecDepth 20000 in
theorem gX5_odds_X5_gcd : GoodIn wsX5_odds (va_wsS RX5 124 yX5_gcd wsX5_gcd) := goodIn_app (goodIn_of _ (by decide +kernel)) ggX5_odds_X5_gcd
theorem dX5_odds_0 : decode cX5_odds 0 = .ok (.aload_n 0, 1) := by decide +kernel
theorem dX5_odds_1 : decode cX5_odds 1 = .ok (.iconst 0, 1) := by decide +kernel
theorem dX5_odds_2 : decode cX5_odds 2 = .ok (.putfield 43, 3) := by decide +kernel
theorem dX5_odds_5 : decode cX5_odds 5 = .ok (.iload_n 1, 1) := by decide +kernel
theorem dX5_odds_6 : decode cX5_odds 6 = .ok (.iconst 0, 1) := by decide +kernel
theorem dX5_odds_7 : decode cX5_odds 7 = .ok (.iconst 1, 1) := by decide +kernel
theorem dX5_odds_8 : decode cX5_odds 8 = .ok (.invokestatic 81, 3) := by decide +kernel
theorem dX5_odds_11 : decode cX5_odds 11 = .ok (.ifCond .ne 5, 3) := by decide +kernel
theorem dX5_odds_14 : decode cX5_odds 14 = .ok (.iconst (-1), 1) := by decide +kernel
theorem dX5_odds_15 : decode cX5_odds 15 = .ok (.ireturn, 1) := by decide +kernel
theorem dX5_odds_16 : decode cX5_odds 16 = .ok (.aload_n 0, 1) := by decide +kernel
theorem dX5_odds_17 : decode cX5_odds 17 = .ok (.invokevirtual 120, 3) := by decide +kernel
theorem dX5_odds_20 : decode cX5_odds 20 = .ok (.ifCond .ne 7, 3) := by decide +kernel
theorem dX5_odds_23 : decode cX5_odds 23 = .ok (.iconst 1, 1) := by decide +kernel
theorem dX5_odds_24 : decode cX5_odds 24 = .ok (.goto 7, 3) := by decide +kernel
theorem dX5_odds_27 : decode cX5_odds 27 = .ok (.aload_n 0, 1) := by decide +kernel
theorem dX5_odds_28 : decode cX5_odds 28 = .ok (.invokevirtual 120, 3) := by decide +kernel
theorem dX5_odds_31 : decode cX5_odds 31 = .ok (.istore_n 2, 1) := by decide +kernel
theorem dX5_odds_32 : decode cX5_odds 32 = .ok (.aload_n 0, 1) := by decide +kernel
theorem dX5_odds_33 : decode cX5_odds 33 = .ok (.aload_n 0, 1) := by decide +kernel
theorem dX5_odds_34 : decode cX5_odds 34 = .ok (.invokevirtual 94, 3) := by decide +kernel
theorem dX5_odds_37 : decode cX5_odds 37 = .ok (.invokevirtual 114, 3) := by decide +kernel
theorem dX5_odds_40 : decode cX5_odds 40 = .ok (.istore_n 3, 1) := by decide +kernel
theorem dX5_odds_41 : decode cX5_odds 41 = .ok (.iload_n 3, 1) := by decide +kernel
theorem dX5_odds_42 : decode cX5_odds 42 = .ok (.iload_n 2, 1) := by decide +kernel
theorem dX5_odds_43 : decode cX5_odds 43 = .ok (.invokestatic 124, 3) := by decide +kernel
theorem dX5_odds_46 : decode cX5_odds 46 = .ok (.istore 4, 2) := by decide +kernel
theorem dX5_odds_48 : decode cX5_odds 48 = .ok (.iload_n 1, 1) := by decide +kernel
theorem dX5_odds_49 : decode cX5_odds 49 = .ok (.ifCond .ne 10, 3) := by decide +kernel
theorem dX5_odds_52 : decode cX5_odds 52 = .ok (.iload_n 3, 1) := by decide +kernel
theorem dX5_odds_53 : decode cX5_odds 53 = .ok (.iload 4, 2) := by decide +kernel
theorem dX5_odds_55 : decode cX5_odds 55 = .ok (.idiv, 1) := by decide +kernel
theorem dX5_odds_56 : decode cX5_odds 56 = .ok (.goto 7, 3) := by decide +kernel
theorem dX5_odds_59 : decode cX5_odds 59 = .ok (.iload_n 2, 1) := by decide +kernel
theorem dX5_odds_60 : decode cX5_odds 60 = .ok (.iload 4, 2) := by decide +kernel
theorem dX5_odds_62 : decode cX5_odds 62 = .ok (.idiv, 1) := by decide +kernel
theorem dX5_odds_63 : decode cX5_odds 63 = .ok (.ireturn, 1) := by decide +kernel
set_option maxRecDepth 20000 in
theorem ggX5_tells_X5_in : GoodIn wsX5_tells wsX5_in := goodIn_r _ [6] (by decide +kernel) (by decide +kernel)
set_option maxRecDepth 20000 in
theorem gX5_tells_X5_in : GoodIn wsX5_tells (va_wsS RX5 81 yX5_in wsX5_in) := goodIn_app (goodIn_of _ (by decide +kernel)) ggX5_tells_X5_in
set_option maxRecDepth 20000 in
theorem ggX5_tells_X5_size : GoodIn wsX5_tells wsX5_size := goodIn_r _ [9, 10, 11, 5, 12, 13, 14, 15, 16] (by decide +kernel) (by decide +kernel)
set_option maxRecDepth 20000 in
theorem gX5_tells_X5_size : GoodIn wsX5_tells (va_wsS RX5 59 yX5_size wsX5_size) := goodIn_app (goodIn_of _ (by decide +kernel)) ggX5_tells_X5_size
set_option maxRecDepth 20000 in
theorem ggX5_tells_X5_sign : GoodIn wsX5_tells wsX5_sign := goodIn_r _ [12, 13, 14, 15, 5, 16] (by decide +kernel) (by decide +kernel)
set_option maxRecDepth 20000 in
theorem gX5_tells_X5_sign : GoodIn wsX5_tells (va_wsS RX5 52 yX5_sign wsX5_sign) := goodIn_app (goodIn_of _ (by decide +kernel)) ggX5_tells_X5_sign
theorem dX5_tells_0 : decode cX5_tells 0 = .ok (.iload_n 1, 1) := by decide +kernel
theorem dX5_tells_1 : decode cX5_tells 1 = .ok (.iconst 0, 1) := by decide +kernel
theorem dX5_tells_2 : decode cX5_tells 2 = .ok (.aload_n 0, 1) := by decide +kernel
theorem dX5_tells_3 : decode cX5_tells 3 = .ok (.getfield 67, 3) := by decide +kernel
theorem dX5_tells_6 : decode cX5_tells 6 = .ok (.iconst 1, 1) := by decide +kernel
theorem dX5_tells_7 : decode cX5_tells 7 = .ok (.isub, 1) := by decide +kernel
theorem dX5_tells_8 : decode cX5_tells 8 = .ok (.invokestatic 81, 3) := by decide +kernel
theorem dX5_tells_11 : decode cX5_tells 11 = .ok (.ifCond .ne 6, 3) := by decide +kernel
theorem dX5_tells_14 : decode cX5_tells 14 = .ok (.bipush (-9), 2) := by decide +kernel
theorem dX5_tells_16 : decode cX5_tells 16 = .ok (.ireturn, 1) := by decide +kernel
theorem dX5_tells_17 : decode cX5_tells 17 = .ok (.iload_n 2, 1) := by decide +kernel
theorem dX5_tells_18 : decode cX5_tells 18 = .ok (.ifCond .ge 13, 3) := by decide +kernel
theorem dX5_tells_21 : decode cX5_tells 21 = .ok (.aload_n 0, 1) := by decide +kernel
theorem dX5_tells_22 : decode cX5_tells 22 = .ok (.getfield 17, 3) := by decide +kernel
theorem dX5_tells_25 : decode cX5_tells 25 = .ok (.iload_n 1, 1) := by decide +kernel
theorem dX5_tells_26 : decode cX5_tells 26 = .ok (.laload, 1) := by decide +kernel
theorem dX5_tells_27 : decode cX5_tells 27 = .ok (.invokestatic 59, 3) := by decide +kernel
theorem dX5_tells_30 : decode cX5_tells 30 = .ok (.ireturn, 1) := by decide +kernel
theorem dX5_tells_31 : decode cX5_tells 31 = .ok (.aload_n 0, 1) := by decide +kernel
theorem dX5_tells_32 : decode cX5_tells 32 = .ok (.getfield 17, 3) := by decide +kernel
theorem dX5_tells_35 : decode cX5_tells 35 = .ok (.iload_n 1, 1) := by decide +kernel
theorem dX5_tells_36 : decode cX5_tells 36 = .ok (.laload, 1) := by decide +kernel
theorem dX5_tells_37 : decode cX5_tells 37 = .ok (.iload_n 2, 1) := by decide +kernel
theorem dX5_tells_38 : decode cX5_tells 38 = .ok (.invokestatic 52, 3) := by decide +kernel
theorem dX5_tells_41 : decode cX5_tells 41 = .ok (.ifCond .ne 8, 3) := by decide +kernel
theorem dX5_tells_44 : decode cX5_tells 44 = .ok (.bipush (-9), 2) := by decide +kernel
theorem dX5_tells_46 : decode cX5_tells 46 = .ok (.goto 18, 3) := by decide +kernel
theorem dX5_tells_49 : decode cX5_tells 49 = .ok (.aload_n 0, 1) := by decide +kernel
theorem dX5_tells_50 : decode cX5_tells 50 = .ok (.getfield 17, 3) := by decide +kernel
theorem dX5_tells_53 : decode cX5_tells 53 = .ok (.iload_n 1, 1) := by decide +kernel
theorem dX5_tells_54 : decode cX5_tells 54 = .ok (.laload, 1) := by decide +kernel
theorem dX5_tells_55 : decode cX5_tells 55 = .ok (.iload_n 2, 1) := by decide +kernel
theorem dX5_tells_56 : decode cX5_tells 56 = .ok (.invokestatic 52, 3) := by decide +kernel
theorem dX5_tells_59 : decode cX5_tells 59 = .ok (.bipush 97, 2) := by decide +kernel
theorem dX5_tells_61 : decode cX5_tells 61 = .ok (.iadd, 1) := by decide +kernel
theorem dX5_tells_62 : decode cX5_tells 62 = .ok (.iconst 1, 1) := by decide +kernel
theorem dX5_tells_63 : decode cX5_tells 63 = .ok (.isub, 1) := by decide +kernel
theorem dX5_tells_64 : decode cX5_tells 64 = .ok (.ireturn, 1) := by decide +kernel
set_option maxRecDepth 20000 in
theorem ggX5_isAt_X5_in : GoodIn wsX5_isAt wsX5_in := goodIn_r _ [4] (by decide +kernel) (by decide +kernel)
set_option maxRecDepth 20000 in
theorem gX5_isAt_X5_in : GoodIn wsX5_isAt (va_wsS RX5 81 yX5_in wsX5_in) := goodIn_app (goodIn_of _ (by decide +kernel)) ggX5_isAt_X5_in
theorem dX5_isAt_0 : decode cX5_isAt 0 = .ok (.iload_n 0, 1) := by decide +kernel
theorem dX5_isAt_1 : decode cX5_isAt 1 = .ok (.iconst (-1), 1) := by decide +kernel
theorem dX5_isAt_2 : decode cX5_isAt 2 = .ok (.bipush 6, 2) := by decide +kernel
theorem dX5_isAt_4 : decode cX5_isAt 4 = .ok (.invokestatic 81, 3) := by decide +kernel
theorem dX5_isAt_7 : decode cX5_isAt 7 = .ok (.ireturn, 1) := by decide +kernel
set_option maxRecDepth 20000 in
theorem ggX5_kth_X5_isAt : GoodIn wsX5_kth wsX5_isAt := goodIn_r _ [7, 8, 9, 6, 10] (by decide +kernel) (by decide +kernel)
set_option maxRecDepth 20000 in
theorem gX5_kth_X5_isAt : GoodIn wsX5_kth (va_wsS RX5 128 yX5_isAt wsX5_isAt) := goodIn_app (goodIn_of _ (by decide +kernel)) ggX5_kth_X5_isAt
set_option maxRecDepth 20000 in
theorem ggX5_kth_X5_tells : GoodIn wsX5_kth wsX5_tells := goodIn_r _ [14, 2, 15, 8, 9, 6, 10, 16, 17, 18, 19, 20, 21, 22, 23, 24, 25, 26, 27, 28, 29, 30, 31, 32, 33, 34, 35, 36, 37, 38, 39, 40, 41] (by decide +kernel) (by decide +kernel)
set_option maxRecDepth 20000 in
theorem gX5_kth_X5_tells : GoodIn wsX5_kth (wsV RX5 132 RX5 yX5_tells wsX5_tells) := goodIn_app (goodIn_of _ (by decide +kernel)) ggX5_kth_X5_tells
theorem dX5_kth_0 : decode cX5_kth 0 = .ok (.aload_n 0, 1) := by decide +kernel
theorem dX5_kth_1 : decode cX5_kth 1 = .ok (.iconst 0, 1) := by decide +kernel
theorem dX5_kth_2 : decode cX5_kth 2 = .ok (.putfield 43, 3) := by decide +kernel
theorem dX5_kth_5 : decode cX5_kth 5 = .ok (.iload_n 1, 1) := by decide +kernel
theorem dX5_kth_6 : decode cX5_kth 6 = .ok (.ifCond .lt 10, 3) := by decide +kernel
theorem dX5_kth_9 : decode cX5_kth 9 = .ok (.iload_n 2, 1) := by decide +kernel
theorem dX5_kth_10 : decode cX5_kth 10 = .ok (.invokestatic 128, 3) := by decide +kernel
theorem dX5_kth_13 : decode cX5_kth 13 = .ok (.ifCond .ne 5, 3) := by decide +kernel
theorem dX5_kth_16 : decode cX5_kth 16 = .ok (.iconst (-1), 1) := by decide +kernel
theorem dX5_kth_17 : decode cX5_kth 17 = .ok (.ireturn, 1) := by decide +kernel
theorem dX5_kth_18 : decode cX5_kth 18 = .ok (.iload_n 1, 1) := by decide +kernel
theorem dX5_kth_19 : decode cX5_kth 19 = .ok (.istore_n 3, 1) := by decide +kernel
theorem dX5_kth_20 : decode cX5_kth 20 = .ok (.iconst 0, 1) := by decide +kernel
theorem dX5_kth_21 : decode cX5_kth 21 = .ok (.istore 4, 2) := by decide +kernel
theorem dX5_kth_23 : decode cX5_kth 23 = .ok (.iload 4, 2) := by decide +kernel
theorem dX5_kth_25 : decode cX5_kth 25 = .ok (.aload_n 0, 1) := by decide +kernel
theorem dX5_kth_26 : decode cX5_kth 26 = .ok (.getfield 67, 3) := by decide +kernel
theorem dX5_kth_29 : decode cX5_kth 29 = .ok (.if_icmp .ge 30, 3) := by decide +kernel
theorem dX5_kth_32 : decode cX5_kth 32 = .ok (.iload_n 3, 1) := by decide +kernel
theorem dX5_kth_33 : decode cX5_kth 33 = .ok (.aload_n 0, 1) := by decide +kernel
theorem dX5_kth_34 : decode cX5_kth 34 = .ok (.getfield 21, 3) := by decide +kernel
theorem dX5_kth_37 : decode cX5_kth 37 = .ok (.iload 4, 2) := by decide +kernel
theorem dX5_kth_39 : decode cX5_kth 39 = .ok (.iaload, 1) := by decide +kernel
theorem dX5_kth_40 : decode cX5_kth 40 = .ok (.if_icmp .lt 19, 3) := by decide +kernel
theorem dX5_kth_43 : decode cX5_kth 43 = .ok (.iload_n 3, 1) := by decide +kernel
theorem dX5_kth_44 : decode cX5_kth 44 = .ok (.aload_n 0, 1) := by decide +kernel
theorem dX5_kth_45 : decode cX5_kth 45 = .ok (.getfield 21, 3) := by decide +kernel
theorem dX5_kth_48 : decode cX5_kth 48 = .ok (.iload 4, 2) := by decide +kernel
theorem dX5_kth_50 : decode cX5_kth 50 = .ok (.iaload, 1) := by decide +kernel
theorem dX5_kth_51 : decode cX5_kth 51 = .ok (.isub, 1) := by decide +kernel
theorem dX5_kth_52 : decode cX5_kth 52 = .ok (.istore_n 3, 1) := by decide +kernel
theorem dX5_kth_53 : decode cX5_kth 53 = .ok (.iinc 4 1, 3) := by decide +kernel
theorem dX5_kth_56 : decode cX5_kth 56 = .ok (.goto (-33), 3) := by decide +kernel
theorem dX5_kth_59 : decode cX5_kth 59 = .ok (.aload_n 0, 1) := by decide +kernel
theorem dX5_kth_60 : decode cX5_kth 60 = .ok (.iload 4, 2) := by decide +kernel
theorem dX5_kth_62 : decode cX5_kth 62 = .ok (.iload_n 2, 1) := by decide +kernel
theorem dX5_kth_63 : decode cX5_kth 63 = .ok (.invokevirtual 132, 3) := by decide +kernel
theorem dX5_kth_66 : decode cX5_kth 66 = .ok (.ireturn, 1) := by decide +kernel
set_option maxRecDepth 20000 in
theorem ggX5_unlike_X5_isAt : GoodIn wsX5_unlike wsX5_isAt := goodIn_r _ [5, 6, 7, 4, 8] (by decide +kernel) (by decide +kernel)
set_option maxRecDepth 20000 in
theorem gX5_unlike_X5_isAt : GoodIn wsX5_unlike (va_wsS RX5 128 yX5_isAt wsX5_isAt) := goodIn_app (goodIn_of _ (by decide +kernel)) ggX5_unlike_X5_isAt
set_option maxRecDepth 20000 in
theorem ggX5_unlike_X5_tells : GoodIn wsX5_unlike wsX5_tells := goodIn_r _ [12, 13, 14, 6, 7, 4, 8, 15, 16, 17, 18, 19, 20, 21, 22, 23, 24, 25, 26, 27, 28, 29, 30, 31, 32, 33, 34, 35, 36, 37, 38, 39, 40] (by decide +kernel) (by decide +kernel)
set_option maxRecDepth 20000 in
theorem gX5_unlike_X5_tells : GoodIn wsX5_unlike (wsV RX5 132 RX5 yX5_tells wsX5_tells) := goodIn_app (goodIn_of _ (by decide +kernel)) ggX5_unlike_X5_tells
theorem dX5_unlike_0 : decode cX5_unlike 0 = .ok (.aload_n 0, 1) := by decide +kernel
theorem dX5_unlike_1 : decode cX5_unlike 1 = .ok (.iconst 0, 1) := by decide +kernel
theorem dX5_unlike_2 : decode cX5_unlike 2 = .ok (.putfield 43, 3) := by decide +kernel
theorem dX5_unlike_5 : decode cX5_unlike 5 = .ok (.iload_n 1, 1) := by decide +kernel
theorem dX5_unlike_6 : decode cX5_unlike 6 = .ok (.ifCond .lt 10, 3) := by decide +kernel
theorem dX5_unlike_9 : decode cX5_unlike 9 = .ok (.iload_n 2, 1) := by decide +kernel
theorem dX5_unlike_10 : decode cX5_unlike 10 = .ok (.invokestatic 128, 3) := by decide +kernel
theorem dX5_unlike_13 : decode cX5_unlike 13 = .ok (.ifCond .ne 7, 3) := by decide +kernel
theorem dX5_unlike_16 : decode cX5_unlike 16 = .ok (.iconst (-1), 1) := by decide +kernel
theorem dX5_unlike_17 : decode cX5_unlike 17 = .ok (.goto 9, 3) := by decide +kernel
theorem dX5_unlike_20 : decode cX5_unlike 20 = .ok (.aload_n 0, 1) := by decide +kernel
theorem dX5_unlike_21 : decode cX5_unlike 21 = .ok (.iload_n 1, 1) := by decide +kernel
theorem dX5_unlike_22 : decode cX5_unlike 22 = .ok (.iload_n 2, 1) := by decide +kernel
theorem dX5_unlike_23 : decode cX5_unlike 23 = .ok (.invokevirtual 132, 3) := by decide +kernel
theorem dX5_unlike_26 : decode cX5_unlike 26 = .ok (.ireturn, 1) := by decide +kernel
set_option maxRecDepth 20000 in
theorem ggX5_next_X5_isAt : GoodIn wsX5_next wsX5_isAt := goodIn_r _ [7, 8, 9, 6, 10] (by decide +kernel) (by decide +kernel)
set_option maxRecDepth 20000 in
theorem gX5_next_X5_isAt : GoodIn wsX5_next (va_wsS RX5 128 yX5_isAt wsX5_isAt) := goodIn_app (goodIn_of _ (by decide +kernel)) ggX5_next_X5_isAt
set_option maxRecDepth 20000 in
theorem ggX5_next_X5_own : GoodIn wsX5_next wsX5_own := goodIn_r _ [14, 15, 16, 17, 31, 32, 33, 34, 35, 36, 37, 38, 39, 40, 41, 42, 43, 44, 45, 46] (by decide +kernel) (by decide +kernel)
set_option maxRecDepth 20000 in
theorem gX5_next_X5_own : GoodIn wsX5_next (wsV RX5 94 RX5 yX5_own wsX5_own) := goodIn_app (goodIn_of _ (by decide +kernel)) ggX5_next_X5_own
set_option maxRecDepth 20000 in
theorem ggX5_next_X5_tells : GoodIn wsX5_next wsX5_tells := goodIn_r _ [21, 2, 3, 8, 9, 6, 10, 22, 23, 24, 25, 26, 27, 15, 28, 29, 30, 31, 32, 33, 34, 35, 36, 37, 38, 39, 40, 41, 42, 43, 44, 45, 46] (by decide +kernel) (by decide +kernel)
set_option maxRecDepth 20000 in
theorem gX5_next_X5_tells : GoodIn wsX5_next (wsV RX5 132 RX5 yX5_tells wsX5_tells) := goodIn_app (goodIn_of _ (by decide +kernel)) ggX5_next_X5_tells
theorem dX5_next_0 : decode cX5_next 0 = .ok (.aload_n 0, 1) := by decide +kernel
theorem dX5_next_1 : decode cX5_next 1 = .ok (.iconst 0, 1) := by decide +kernel
theorem dX5_next_2 : decode cX5_next 2 = .ok (.putfield 43, 3) := by decide +kernel
theorem dX5_next_5 : decode cX5_next 5 = .ok (.iload_n 1, 1) := by decide +kernel
theorem dX5_next_6 : decode cX5_next 6 = .ok (.invokestatic 128, 3) := by decide +kernel
theorem dX5_next_9 : decode cX5_next 9 = .ok (.ifCond .ne 5, 3) := by decide +kernel
theorem dX5_next_12 : decode cX5_next 12 = .ok (.iconst (-1), 1) := by decide +kernel
theorem dX5_next_13 : decode cX5_next 13 = .ok (.ireturn, 1) := by decide +kernel
theorem dX5_next_14 : decode cX5_next 14 = .ok (.iconst 0, 1) := by decide +kernel
theorem dX5_next_15 : decode cX5_next 15 = .ok (.istore_n 2, 1) := by decide +kernel
theorem dX5_next_16 : decode cX5_next 16 = .ok (.iload_n 2, 1) := by decide +kernel
theorem dX5_next_17 : decode cX5_next 17 = .ok (.aload_n 0, 1) := by decide +kernel
theorem dX5_next_18 : decode cX5_next 18 = .ok (.getfield 67, 3) := by decide +kernel
theorem dX5_next_21 : decode cX5_next 21 = .ok (.if_icmp .ge 23, 3) := by decide +kernel
theorem dX5_next_24 : decode cX5_next 24 = .ok (.aload_n 0, 1) := by decide +kernel
theorem dX5_next_25 : decode cX5_next 25 = .ok (.getfield 17, 3) := by decide +kernel
theorem dX5_next_28 : decode cX5_next 28 = .ok (.iload_n 2, 1) := by decide +kernel
theorem dX5_next_29 : decode cX5_next 29 = .ok (.laload, 1) := by decide +kernel
theorem dX5_next_30 : decode cX5_next 30 = .ok (.aload_n 0, 1) := by decide +kernel
theorem dX5_next_31 : decode cX5_next 31 = .ok (.invokevirtual 94, 3) := by decide +kernel
theorem dX5_next_34 : decode cX5_next 34 = .ok (.lcmp, 1) := by decide +kernel
theorem dX5_next_35 : decode cX5_next 35 = .ok (.ifCond .gt 9, 3) := by decide +kernel
theorem dX5_next_38 : decode cX5_next 38 = .ok (.iinc 2 1, 3) := by decide +kernel
theorem dX5_next_41 : decode cX5_next 41 = .ok (.goto (-25), 3) := by decide +kernel
theorem dX5_next_44 : decode cX5_next 44 = .ok (.aload_n 0, 1) := by decide +kernel
theorem dX5_next_45 : decode cX5_next 45 = .ok (.iload_n 2, 1) := by decide +kernel
theorem dX5_next_46 : decode cX5_next 46 = .ok (.iload_n 1, 1) := by decide +kernel
theorem dX5_next_47 : decode cX5_next 47 = .ok (.invokevirtual 132, 3) := by decide +kernel
theorem dX5_next_50 : decode cX5_next 50 = .ok (.ireturn, 1) := by decide +kernel
set_option maxRecDepth 20000 in
theorem ggX5_top_X5_isAt : GoodIn wsX5_top wsX5_isAt := goodIn_r _ [9, 10, 11, 8, 12] (by decide +kernel) (by decide +kernel)
set_option maxRecDepth 20000 in
theorem gX5_top_X5_isAt : GoodIn wsX5_top (va_wsS RX5 128 yX5_isAt wsX5_isAt) := goodIn_app (goodIn_of _ (by decide +kernel)) ggX5_top_X5_isAt
set_option maxRecDepth 20000 in
theorem ggX5_top_X5_own : GoodIn wsX5_top wsX5_own := goodIn_r _ [16, 17, 18, 19, 39, 40, 41, 42, 43, 44, 45, 46, 47, 48, 49, 50, 51, 52, 53, 54] (by decide +kernel) (by decide +kernel)
set_option maxRecDepth 20000 in
theorem gX5_top_X5_own : GoodIn wsX5_top (wsV RX5 94 RX5 yX5_own wsX5_own) := goodIn_app (goodIn_of _ (by decide +kernel)) ggX5_top_X5_own
set_option maxRecDepth 20000 in
theorem ggX5_top_X5_begins : GoodIn wsX5_top wsX5_begins := goodIn_r _ [22, 23, 24, 8, 25, 26, 27, 28, 17, 29, 30, 31, 32, 33, 34] (by decide +kernel) (by decide +kernel)
set_option maxRecDepth 20000 in
theorem gX5_top_X5_begins : GoodIn wsX5_top (va_wsS RX5 70 yX5_begins wsX5_begins) := goodIn_app (goodIn_of _ (by decide +kernel)) ggX5_top_X5_begins
set_option maxRecDepth 20000 in
theorem ggX5_top_X5_tells : GoodIn wsX5_top wsX5_tells := goodIn_r _ [38, 2, 4, 10, 11, 8, 12, 23, 24, 25, 26, 27, 28, 17, 29, 30, 31, 39, 40, 41, 42, 43, 44, 45, 46, 47, 48, 49, 50, 51, 52, 53, 54] (by decide +kernel) (by decide +kernel)
set_option maxRecDepth 20000 in
theorem gX5_top_X5_tells : GoodIn wsX5_top (wsV RX5 132 RX5 yX5_tells wsX5_tells) := goodIn_app (goodIn_of _ (by decide +kernel)) ggX5_top_X5_tells
theorem dX5_top_0 : decode cX5_top 0 = .ok (.aload_n 0, 1) := by decide +kernel
theorem dX5_top_1 : decode cX5_top 1 = .ok (.iconst 0, 1) := by decide +kernel
theorem dX5_top_2 : decode cX5_top 2 = .ok (.putfield 43, 3) := by decide +kernel
theorem dX5_top_5 : decode cX5_top 5 = .ok (.iload_n 1, 1) := by decide +kernel
theorem dX5_top_6 : decode cX5_top 6 = .ok (.ifCond .lt 10, 3) := by decide +kernel
theorem dX5_top_9 : decode cX5_top 9 = .ok (.iload_n 2, 1) := by decide +kernel
theorem dX5_top_10 : decode cX5_top 10 = .ok (.invokestatic 128, 3) := by decide +kernel
theorem dX5_top_13 : decode cX5_top 13 = .ok (.ifCond .ne 5, 3) := by decide +kernel
theorem dX5_top_16 : decode cX5_top 16 = .ok (.iconst (-1), 1) := by decide +kernel
theorem dX5_top_17 : decode cX5_top 17 = .ok (.ireturn, 1) := by decide +kernel
theorem dX5_top_18 : decode cX5_top 18 = .ok (.iconst 0, 1) := by decide +kernel
theorem dX5_top_19 : decode cX5_top 19 = .ok (.istore_n 3, 1) := by decide +kernel
theorem dX5_top_20 : decode cX5_top 20 = .ok (.iload_n 3, 1) := by decide +kernel
theorem dX5_top_21 : decode cX5_top 21 = .ok (.aload_n 0, 1) := by decide +kernel
theorem dX5_top_22 : decode cX5_top 22 = .ok (.getfield 67, 3) := by decide +kernel
theorem dX5_top_25 : decode cX5_top 25 = .ok (.if_icmp .ge 36, 3) := by decide +kernel
theorem dX5_top_28 : decode cX5_top 28 = .ok (.aload_n 0, 1) := by decide +kernel
theorem dX5_top_29 : decode cX5_top 29 = .ok (.getfield 39, 3) := by decide +kernel
theorem dX5_top_32 : decode cX5_top 32 = .ok (.iload_n 3, 1) := by decide +kernel
theorem dX5_top_33 : decode cX5_top 33 = .ok (.aload_n 0, 1) := by decide +kernel
theorem dX5_top_34 : decode cX5_top 34 = .ok (.getfield 17, 3) := by decide +kernel
theorem dX5_top_37 : decode cX5_top 37 = .ok (.iload_n 3, 1) := by decide +kernel
theorem dX5_top_38 : decode cX5_top 38 = .ok (.laload, 1) := by decide +kernel
theorem dX5_top_39 : decode cX5_top 39 = .ok (.aload_n 0, 1) := by decide +kernel
theorem dX5_top_40 : decode cX5_top 40 = .ok (.invokevirtual 94, 3) := by decide +kernel
theorem dX5_top_43 : decode cX5_top 43 = .ok (.invokestatic 70, 3) := by decide +kernel
theorem dX5_top_46 : decode cX5_top 46 = .ok (.ifCond .ne 7, 3) := by decide +kernel
theorem dX5_top_49 : decode cX5_top 49 = .ok (.iconst 1, 1) := by decide +kernel
theorem dX5_top_50 : decode cX5_top 50 = .ok (.goto 4, 3) := by decide +kernel
theorem dX5_top_53 : decode cX5_top 53 = .ok (.iconst 0, 1) := by decide +kernel
theorem dX5_top_54 : decode cX5_top 54 = .ok (.bastore, 1) := by decide +kernel
theorem dX5_top_55 : decode cX5_top 55 = .ok (.iinc 3 1, 3) := by decide +kernel
theorem dX5_top_58 : decode cX5_top 58 = .ok (.goto (-38), 3) := by decide +kernel
theorem dX5_top_61 : decode cX5_top 61 = .ok (.aload_n 0, 1) := by decide +kernel
theorem dX5_top_62 : decode cX5_top 62 = .ok (.getfield 67, 3) := by decide +kernel
theorem dX5_top_65 : decode cX5_top 65 = .ok (.istore_n 3, 1) := by decide +kernel
theorem dX5_top_66 : decode cX5_top 66 = .ok (.iconst 0, 1) := by decide +kernel
theorem dX5_top_67 : decode cX5_top 67 = .ok (.istore 4, 2) := by decide +kernel
theorem dX5_top_69 : decode cX5_top 69 = .ok (.iload 4, 2) := by decide +kernel
theorem dX5_top_71 : decode cX5_top 71 = .ok (.iload_n 1, 1) := by decide +kernel
theorem dX5_top_72 : decode cX5_top 72 = .ok (.if_icmp .gt 97, 3) := by decide +kernel
theorem dX5_top_75 : decode cX5_top 75 = .ok (.iload 4, 2) := by decide +kernel
theorem dX5_top_77 : decode cX5_top 77 = .ok (.aload_n 0, 1) := by decide +kernel
theorem dX5_top_78 : decode cX5_top 78 = .ok (.getfield 67, 3) := by decide +kernel
theorem dX5_top_81 : decode cX5_top 81 = .ok (.if_icmp .gt 88, 3) := by decide +kernel
theorem dX5_top_84 : decode cX5_top 84 = .ok (.aload_n 0, 1) := by decide +kernel
theorem dX5_top_85 : decode cX5_top 85 = .ok (.getfield 67, 3) := by decide +kernel
theorem dX5_top_88 : decode cX5_top 88 = .ok (.istore_n 3, 1) := by decide +kernel
theorem dX5_top_89 : decode cX5_top 89 = .ok (.iconst 0, 1) := by decide +kernel
theorem dX5_top_90 : decode cX5_top 90 = .ok (.istore 5, 2) := by decide +kernel
theorem dX5_top_92 : decode cX5_top 92 = .ok (.iload 5, 2) := by decide +kernel
theorem dX5_top_94 : decode cX5_top 94 = .ok (.aload_n 0, 1) := by decide +kernel
theorem dX5_top_95 : decode cX5_top 95 = .ok (.getfield 67, 3) := by decide +kernel
theorem dX5_top_98 : decode cX5_top 98 = .ok (.if_icmp .ge 50, 3) := by decide +kernel
theorem dX5_top_101 : decode cX5_top 101 = .ok (.aload_n 0, 1) := by decide +kernel
theorem dX5_top_102 : decode cX5_top 102 = .ok (.getfield 39, 3) := by decide +kernel
theorem dX5_top_105 : decode cX5_top 105 = .ok (.iload 5, 2) := by decide +kernel
theorem dX5_top_107 : decode cX5_top 107 = .ok (.baload, 1) := by decide +kernel
theorem dX5_top_108 : decode cX5_top 108 = .ok (.ifCond .ne 32, 3) := by decide +kernel
theorem dX5_top_111 : decode cX5_top 111 = .ok (.iload_n 3, 1) := by decide +kernel
theorem dX5_top_112 : decode cX5_top 112 = .ok (.aload_n 0, 1) := by decide +kernel
theorem dX5_top_113 : decode cX5_top 113 = .ok (.getfield 67, 3) := by decide +kernel
theorem dX5_top_116 : decode cX5_top 116 = .ok (.if_icmp .eq 19, 3) := by decide +kernel
theorem dX5_top_119 : decode cX5_top 119 = .ok (.aload_n 0, 1) := by decide +kernel
theorem dX5_top_120 : decode cX5_top 120 = .ok (.getfield 21, 3) := by decide +kernel
theorem dX5_top_123 : decode cX5_top 123 = .ok (.iload 5, 2) := by decide +kernel
theorem dX5_top_125 : decode cX5_top 125 = .ok (.iaload, 1) := by decide +kernel
theorem dX5_top_126 : decode cX5_top 126 = .ok (.aload_n 0, 1) := by decide +kernel
theorem dX5_top_127 : decode cX5_top 127 = .ok (.getfield 21, 3) := by decide +kernel
theorem dX5_top_130 : decode cX5_top 130 = .ok (.iload_n 3, 1) := by decide +kernel
theorem dX5_top_131 : decode cX5_top 131 = .ok (.iaload, 1) := by decide +kernel
theorem dX5_top_132 : decode cX5_top 132 = .ok (.if_icmp .le 8, 3) := by decide +kernel
theorem dX5_top_135 : decode cX5_top 135 = .ok (.iload 5, 2) := by decide +kernel
theorem dX5_top_137 : decode cX5_top 137 = .ok (.goto 4, 3) := by decide +kernel
theorem dX5_top_140 : decode cX5_top 140 = .ok (.iload_n 3, 1) := by decide +kernel
theorem dX5_top_141 : decode cX5_top 141 = .ok (.istore_n 3, 1) := by decide +kernel
theorem dX5_top_142 : decode cX5_top 142 = .ok (.iinc 5 1, 3) := by decide +kernel
theorem dX5_top_145 : decode cX5_top 145 = .ok (.goto (-53), 3) := by decide +kernel
theorem dX5_top_148 : decode cX5_top 148 = .ok (.iload_n 3, 1) := by decide +kernel
theorem dX5_top_149 : decode cX5_top 149 = .ok (.aload_n 0, 1) := by decide +kernel
theorem dX5_top_150 : decode cX5_top 150 = .ok (.getfield 67, 3) := by decide +kernel
theorem dX5_top_153 : decode cX5_top 153 = .ok (.if_icmp .ge 10, 3) := by decide +kernel
theorem dX5_top_156 : decode cX5_top 156 = .ok (.aload_n 0, 1) := by decide +kernel
theorem dX5_top_157 : decode cX5_top 157 = .ok (.getfield 39, 3) := by decide +kernel
theorem dX5_top_160 : decode cX5_top 160 = .ok (.iload_n 3, 1) := by decide +kernel
theorem dX5_top_161 : decode cX5_top 161 = .ok (.iconst 1, 1) := by decide +kernel
theorem dX5_top_162 : decode cX5_top 162 = .ok (.bastore, 1) := by decide +kernel
theorem dX5_top_163 : decode cX5_top 163 = .ok (.iinc 4 1, 3) := by decide +kernel
theorem dX5_top_166 : decode cX5_top 166 = .ok (.goto (-97), 3) := by decide +kernel
theorem dX5_top_169 : decode cX5_top 169 = .ok (.iload_n 1, 1) := by decide +kernel
theorem dX5_top_170 : decode cX5_top 170 = .ok (.aload_n 0, 1) := by decide +kernel
theorem dX5_top_171 : decode cX5_top 171 = .ok (.getfield 67, 3) := by decide +kernel
theorem dX5_top_174 : decode cX5_top 174 = .ok (.if_icmp .le 8, 3) := by decide +kernel
theorem dX5_top_177 : decode cX5_top 177 = .ok (.bipush (-9), 2) := by decide +kernel
theorem dX5_top_179 : decode cX5_top 179 = .ok (.goto 9, 3) := by decide +kernel
theorem dX5_top_182 : decode cX5_top 182 = .ok (.aload_n 0, 1) := by decide +kernel
theorem dX5_top_183 : decode cX5_top 183 = .ok (.iload_n 3, 1) := by decide +kernel
theorem dX5_top_184 : decode cX5_top 184 = .ok (.iload_n 2, 1) := by decide +kernel
theorem dX5_top_185 : decode cX5_top 185 = .ok (.invokevirtual 132, 3) := by decide +kernel
theorem dX5_top_188 : decode cX5_top 188 = .ok (.ireturn, 1) := by decide +kernel
set_option maxRecDepth 20000 in
theorem ggX5_sees_X5_in : GoodIn wsX5_sees wsX5_in := goodIn_r _ [9] (by decide +kernel) (by decide +kernel)
set_option maxRecDepth 20000 in
theorem gX5_sees_X5_in : GoodIn wsX5_sees (va_wsS RX5 81 yX5_in wsX5_in) := goodIn_app (goodIn_of _ (by decide +kernel)) ggX5_sees_X5_in
theorem dX5_sees_0 : decode cX5_sees 0 = .ok (.aload_n 0, 1) := by decide +kernel
theorem dX5_sees_1 : decode cX5_sees 1 = .ok (.iconst 0, 1) := by decide +kernel
theorem dX5_sees_2 : decode cX5_sees 2 = .ok (.putfield 43, 3) := by decide +kernel
theorem dX5_sees_5 : decode cX5_sees 5 = .ok (.iload_n 1, 1) := by decide +kernel
theorem dX5_sees_6 : decode cX5_sees 6 = .ok (.iconst 0, 1) := by decide +kernel
theorem dX5_sees_7 : decode cX5_sees 7 = .ok (.bipush 6, 2) := by decide +kernel
theorem dX5_sees_9 : decode cX5_sees 9 = .ok (.invokestatic 81, 3) := by decide +kernel
theorem dX5_sees_12 : decode cX5_sees 12 = .ok (.ifCond .eq 23, 3) := by decide +kernel
theorem dX5_sees_15 : decode cX5_sees 15 = .ok (.iload_n 2, 1) := by decide +kernel
theorem dX5_sees_16 : decode cX5_sees 16 = .ok (.bipush 97, 2) := by decide +kernel
theorem dX5_sees_18 : decode cX5_sees 18 = .ok (.bipush 122, 2) := by decide +kernel
theorem dX5_sees_20 : decode cX5_sees 20 = .ok (.invokestatic 81, 3) := by decide +kernel
theorem dX5_sees_23 : decode cX5_sees 23 = .ok (.ifCond .eq 12, 3) := by decide +kernel
theorem dX5_sees_26 : decode cX5_sees 26 = .ok (.iload_n 3, 1) := by decide +kernel
theorem dX5_sees_27 : decode cX5_sees 27 = .ok (.iconst 0, 1) := by decide +kernel
theorem dX5_sees_28 : decode cX5_sees 28 = .ok (.iconst 1, 1) := by decide +kernel
theorem dX5_sees_29 : decode cX5_sees 29 = .ok (.invokestatic 81, 3) := by decide +kernel
theorem dX5_sees_32 : decode cX5_sees 32 = .ok (.ifCond .ne 5, 3) := by decide +kernel
theorem dX5_sees_35 : decode cX5_sees 35 = .ok (.iconst (-1), 1) := by decide +kernel
theorem dX5_sees_36 : decode cX5_sees 36 = .ok (.ireturn, 1) := by decide +kernel
theorem dX5_sees_37 : decode cX5_sees 37 = .ok (.aload_n 0, 1) := by decide +kernel
theorem dX5_sees_38 : decode cX5_sees 38 = .ok (.getfield 135, 3) := by decide +kernel
theorem dX5_sees_41 : decode cX5_sees 41 = .ok (.bipush 8, 2) := by decide +kernel
theorem dX5_sees_43 : decode cX5_sees 43 = .ok (.if_icmp .ne 6, 3) := by decide +kernel
theorem dX5_sees_46 : decode cX5_sees 46 = .ok (.bipush (-3), 2) := by decide +kernel
theorem dX5_sees_48 : decode cX5_sees 48 = .ok (.ireturn, 1) := by decide +kernel
theorem dX5_sees_49 : decode cX5_sees 49 = .ok (.aload_n 0, 1) := by decide +kernel
theorem dX5_sees_50 : decode cX5_sees 50 = .ok (.getfield 30, 3) := by decide +kernel
theorem dX5_sees_53 : decode cX5_sees 53 = .ok (.aload_n 0, 1) := by decide +kernel
theorem dX5_sees_54 : decode cX5_sees 54 = .ok (.getfield 135, 3) := by decide +kernel
theorem dX5_sees_57 : decode cX5_sees 57 = .ok (.iload_n 1, 1) := by decide +kernel
theorem dX5_sees_58 : decode cX5_sees 58 = .ok (.iastore, 1) := by decide +kernel
theorem dX5_sees_59 : decode cX5_sees 59 = .ok (.aload_n 0, 1) := by decide +kernel
theorem dX5_sees_60 : decode cX5_sees 60 = .ok (.getfield 33, 3) := by decide +kernel
theorem dX5_sees_63 : decode cX5_sees 63 = .ok (.aload_n 0, 1) := by decide +kernel
theorem dX5_sees_64 : decode cX5_sees 64 = .ok (.getfield 135, 3) := by decide +kernel
theorem dX5_sees_67 : decode cX5_sees 67 = .ok (.iload_n 2, 1) := by decide +kernel
theorem dX5_sees_68 : decode cX5_sees 68 = .ok (.bipush 97, 2) := by decide +kernel
theorem dX5_sees_70 : decode cX5_sees 70 = .ok (.isub, 1) := by decide +kernel
theorem dX5_sees_71 : decode cX5_sees 71 = .ok (.iconst 1, 1) := by decide +kernel
theorem dX5_sees_72 : decode cX5_sees 72 = .ok (.iadd, 1) := by decide +kernel
theorem dX5_sees_73 : decode cX5_sees 73 = .ok (.iastore, 1) := by decide +kernel
theorem dX5_sees_74 : decode cX5_sees 74 = .ok (.aload_n 0, 1) := by decide +kernel
theorem dX5_sees_75 : decode cX5_sees 75 = .ok (.getfield 36, 3) := by decide +kernel
theorem dX5_sees_78 : decode cX5_sees 78 = .ok (.aload_n 0, 1) := by decide +kernel
theorem dX5_sees_79 : decode cX5_sees 79 = .ok (.getfield 135, 3) := by decide +kernel
theorem dX5_sees_82 : decode cX5_sees 82 = .ok (.iload_n 3, 1) := by decide +kernel
theorem dX5_sees_83 : decode cX5_sees 83 = .ok (.iastore, 1) := by decide +kernel
theorem dX5_sees_84 : decode cX5_sees 84 = .ok (.aload_n 0, 1) := by decide +kernel
theorem dX5_sees_85 : decode cX5_sees 85 = .ok (.dup, 1) := by decide +kernel
theorem dX5_sees_86 : decode cX5_sees 86 = .ok (.getfield 135, 3) := by decide +kernel
theorem dX5_sees_89 : decode cX5_sees 89 = .ok (.iconst 1, 1) := by decide +kernel
theorem dX5_sees_90 : decode cX5_sees 90 = .ok (.iadd, 1) := by decide +kernel
theorem dX5_sees_91 : decode cX5_sees 91 = .ok (.putfield 135, 3) := by decide +kernel
theorem dX5_sees_94 : decode cX5_sees 94 = .ok (.aload_n 0, 1) := by decide +kernel
theorem dX5_sees_95 : decode cX5_sees 95 = .ok (.getfield 135, 3) := by decide +kernel
theorem dX5_sees_98 : decode cX5_sees 98 = .ok (.ireturn, 1) := by decide +kernel
theorem dX5_forget_0 : decode cX5_forget 0 = .ok (.aload_n 0, 1) := by decide +kernel
theorem dX5_forget_1 : decode cX5_forget 1 = .ok (.iconst 0, 1) := by decide +kernel
theorem dX5_forget_2 : decode cX5_forget 2 = .ok (.putfield 43, 3) := by decide +kernel
theorem dX5_forget_5 : decode cX5_forget 5 = .ok (.aload_n 0, 1) := by decide +kernel
theorem dX5_forget_6 : decode cX5_forget 6 = .ok (.getfield 135, 3) := by decide +kernel
theorem dX5_forget_9 : decode cX5_forget 9 = .ok (.istore_n 1, 1) := by decide +kernel
theorem dX5_forget_10 : decode cX5_forget 10 = .ok (.aload_n 0, 1) := by decide +kernel
theorem dX5_forget_11 : decode cX5_forget 11 = .ok (.iconst 0, 1) := by decide +kernel
theorem dX5_forget_12 : decode cX5_forget 12 = .ok (.putfield 135, 3) := by decide +kernel
theorem dX5_forget_15 : decode cX5_forget 15 = .ok (.iload_n 1, 1) := by decide +kernel
theorem dX5_forget_16 : decode cX5_forget 16 = .ok (.ireturn, 1) := by decide +kernel
set_option maxRecDepth 20000 in
theorem ggX5_fits_X5_sign : GoodIn wsX5_fits wsX5_sign := goodIn_r _ [9, 10, 11, 12, 8, 13] (by decide +kernel) (by decide +kernel)
set_option maxRecDepth 20000 in
theorem gX5_fits_X5_sign : GoodIn wsX5_fits (va_wsS RX5 52 yX5_sign wsX5_sign) := goodIn_app (goodIn_of _ (by decide +kernel)) ggX5_fits_X5_sign
theorem dX5_fits_0 : decode cX5_fits 0 = .ok (.iconst 1, 1) := by decide +kernel
theorem dX5_fits_1 : decode cX5_fits 1 = .ok (.istore_n 2, 1) := by decide +kernel
theorem dX5_fits_2 : decode cX5_fits 2 = .ok (.iconst 0, 1) := by decide +kernel
theorem dX5_fits_3 : decode cX5_fits 3 = .ok (.istore_n 3, 1) := by decide +kernel
theorem dX5_fits_4 : decode cX5_fits 4 = .ok (.iload_n 3, 1) := by decide +kernel
theorem dX5_fits_5 : decode cX5_fits 5 = .ok (.aload_n 0, 1) := by decide +kernel
theorem dX5_fits_6 : decode cX5_fits 6 = .ok (.getfield 135, 3) := by decide +kernel
theorem dX5_fits_9 : decode cX5_fits 9 = .ok (.if_icmp .ge 66, 3) := by decide +kernel
theorem dX5_fits_12 : decode cX5_fits 12 = .ok (.iload_n 2, 1) := by decide +kernel
theorem dX5_fits_13 : decode cX5_fits 13 = .ok (.ifCond .eq 54, 3) := by decide +kernel
theorem dX5_fits_16 : decode cX5_fits 16 = .ok (.aload_n 0, 1) := by decide +kernel
theorem dX5_fits_17 : decode cX5_fits 17 = .ok (.getfield 17, 3) := by decide +kernel
theorem dX5_fits_20 : decode cX5_fits 20 = .ok (.iload_n 1, 1) := by decide +kernel
theorem dX5_fits_21 : decode cX5_fits 21 = .ok (.laload, 1) := by decide +kernel
theorem dX5_fits_22 : decode cX5_fits 22 = .ok (.aload_n 0, 1) := by decide +kernel
theorem dX5_fits_23 : decode cX5_fits 23 = .ok (.getfield 30, 3) := by decide +kernel
theorem dX5_fits_26 : decode cX5_fits 26 = .ok (.iload_n 3, 1) := by decide +kernel
theorem dX5_fits_27 : decode cX5_fits 27 = .ok (.iaload, 1) := by decide +kernel
theorem dX5_fits_28 : decode cX5_fits 28 = .ok (.invokestatic 52, 3) := by decide +kernel
theorem dX5_fits_31 : decode cX5_fits 31 = .ok (.aload_n 0, 1) := by decide +kernel
theorem dX5_fits_32 : decode cX5_fits 32 = .ok (.getfield 33, 3) := by decide +kernel
theorem dX5_fits_35 : decode cX5_fits 35 = .ok (.iload_n 3, 1) := by decide +kernel
theorem dX5_fits_36 : decode cX5_fits 36 = .ok (.iaload, 1) := by decide +kernel
theorem dX5_fits_37 : decode cX5_fits 37 = .ok (.if_icmp .ne 7, 3) := by decide +kernel
theorem dX5_fits_40 : decode cX5_fits 40 = .ok (.iconst 1, 1) := by decide +kernel
theorem dX5_fits_41 : decode cX5_fits 41 = .ok (.goto 4, 3) := by decide +kernel
theorem dX5_fits_44 : decode cX5_fits 44 = .ok (.iconst 0, 1) := by decide +kernel
theorem dX5_fits_45 : decode cX5_fits 45 = .ok (.aload_n 0, 1) := by decide +kernel
theorem dX5_fits_46 : decode cX5_fits 46 = .ok (.getfield 36, 3) := by decide +kernel
theorem dX5_fits_49 : decode cX5_fits 49 = .ok (.iload_n 3, 1) := by decide +kernel
theorem dX5_fits_50 : decode cX5_fits 50 = .ok (.iaload, 1) := by decide +kernel
theorem dX5_fits_51 : decode cX5_fits 51 = .ok (.iconst 1, 1) := by decide +kernel
theorem dX5_fits_52 : decode cX5_fits 52 = .ok (.if_icmp .ne 7, 3) := by decide +kernel
theorem dX5_fits_55 : decode cX5_fits 55 = .ok (.iconst 1, 1) := by decide +kernel
theorem dX5_fits_56 : decode cX5_fits 56 = .ok (.goto 4, 3) := by decide +kernel
theorem dX5_fits_59 : decode cX5_fits 59 = .ok (.iconst 0, 1) := by decide +kernel
theorem dX5_fits_60 : decode cX5_fits 60 = .ok (.if_icmp .ne 7, 3) := by decide +kernel
theorem dX5_fits_63 : decode cX5_fits 63 = .ok (.iconst 1, 1) := by decide +kernel
theorem dX5_fits_64 : decode cX5_fits 64 = .ok (.goto 4, 3) := by decide +kernel
theorem dX5_fits_67 : decode cX5_fits 67 = .ok (.iconst 0, 1) := by decide +kernel
theorem dX5_fits_68 : decode cX5_fits 68 = .ok (.istore_n 2, 1) := by decide +kernel
theorem dX5_fits_69 : decode cX5_fits 69 = .ok (.iinc 3 1, 3) := by decide +kernel
theorem dX5_fits_72 : decode cX5_fits 72 = .ok (.goto (-68), 3) := by decide +kernel
theorem dX5_fits_75 : decode cX5_fits 75 = .ok (.iload_n 2, 1) := by decide +kernel
theorem dX5_fits_76 : decode cX5_fits 76 = .ok (.ireturn, 1) := by decide +kernel
set_option maxRecDepth 20000 in
theorem ggX5_fitMany_X5_fits : GoodIn wsX5_fitMany wsX5_fits := goodIn_r _ [6, 7, 8, 9, 10, 11, 12, 13, 5, 14, 15, 16, 17, 18, 19, 20, 21, 22, 23, 24, 25, 26, 27, 28, 29, 30, 31, 32, 33, 34] (by decide +kernel) (by decide +kernel)
set_option maxRecDepth 20000 in
theorem gX5_fitMany_X5_fits : GoodIn wsX5_fitMany (wsV RX5 138 RX5 yX5_fits wsX5_fits) := goodIn_app (goodIn_of _ (by decide +kernel)) ggX5_fitMany_X5_fits
theorem dX5_fitMany_0 : decode cX5_fitMany 0 = .ok (.iconst 0, 1) := by decide +kernel
theorem dX5_fitMany_1 : decode cX5_fitMany 1 = .ok (.istore_n 1, 1) := by decide +kernel
theorem dX5_fitMany_2 : decode cX5_fitMany 2 = .ok (.iconst 0, 1) := by decide +kernel
theorem dX5_fitMany_3 : decode cX5_fitMany 3 = .ok (.istore_n 2, 1) := by decide +kernel
theorem dX5_fitMany_4 : decode cX5_fitMany 4 = .ok (.iload_n 2, 1) := by decide +kernel
theorem dX5_fitMany_5 : decode cX5_fitMany 5 = .ok (.aload_n 0, 1) := by decide +kernel
theorem dX5_fitMany_6 : decode cX5_fitMany 6 = .ok (.getfield 67, 3) := by decide +kernel
theorem dX5_fitMany_9 : decode cX5_fitMany 9 = .ok (.if_icmp .ge 25, 3) := by decide +kernel
theorem dX5_fitMany_12 : decode cX5_fitMany 12 = .ok (.iload_n 1, 1) := by decide +kernel
theorem dX5_fitMany_13 : decode cX5_fitMany 13 = .ok (.aload_n 0, 1) := by decide +kernel
theorem dX5_fitMany_14 : decode cX5_fitMany 14 = .ok (.iload_n 2, 1) := by decide +kernel
theorem dX5_fitMany_15 : decode cX5_fitMany 15 = .ok (.invokevirtual 138, 3) := by decide +kernel
theorem dX5_fitMany_18 : decode cX5_fitMany 18 = .ok (.ifCond .eq 7, 3) := by decide +kernel
theorem dX5_fitMany_21 : decode cX5_fitMany 21 = .ok (.iconst 1, 1) := by decide +kernel
theorem dX5_fitMany_22 : decode cX5_fitMany 22 = .ok (.goto 4, 3) := by decide +kernel
theorem dX5_fitMany_25 : decode cX5_fitMany 25 = .ok (.iconst 0, 1) := by decide +kernel
theorem dX5_fitMany_26 : decode cX5_fitMany 26 = .ok (.iadd, 1) := by decide +kernel
theorem dX5_fitMany_27 : decode cX5_fitMany 27 = .ok (.istore_n 1, 1) := by decide +kernel
theorem dX5_fitMany_28 : decode cX5_fitMany 28 = .ok (.iinc 2 1, 3) := by decide +kernel
theorem dX5_fitMany_31 : decode cX5_fitMany 31 = .ok (.goto (-27), 3) := by decide +kernel
theorem dX5_fitMany_34 : decode cX5_fitMany 34 = .ok (.iload_n 1, 1) := by decide +kernel
theorem dX5_fitMany_35 : decode cX5_fitMany 35 = .ok (.ireturn, 1) := by decide +kernel
set_option maxRecDepth 20000 in
theorem ggX5_fit_X5_in : GoodIn wsX5_fit wsX5_in := goodIn_r _ [6] (by decide +kernel) (by decide +kernel)
set_option maxRecDepth 20000 in
theorem gX5_fit_X5_in : GoodIn wsX5_fit (va_wsS RX5 81 yX5_in wsX5_in) := goodIn_app (goodIn_of _ (by decide +kernel)) ggX5_fit_X5_in
set_option maxRecDepth 20000 in
theorem ggX5_fit_X5_fits : GoodIn wsX5_fit wsX5_fits := goodIn_r _ [10, 11, 12, 13, 14, 15, 16, 17, 5, 18, 19, 20, 21, 22, 27, 28, 29, 30, 31, 32, 33, 34, 35, 36, 37, 38, 39, 40, 41, 42] (by decide +kernel) (by decide +kernel)
set_option maxRecDepth 20000 in
theorem gX5_fit_X5_fits : GoodIn wsX5_fit (wsV RX5 138 RX5 yX5_fits wsX5_fits) := goodIn_app (goodIn_of _ (by decide +kernel)) ggX5_fit_X5_fits
set_option maxRecDepth 20000 in
theorem ggX5_fit_X5_fitMany : GoodIn wsX5_fit wsX5_fitMany := goodIn_r _ [26, 2, 7, 8, 9, 5, 10, 11, 12, 13, 14, 15, 16, 17, 18, 19, 20, 21, 22, 27, 28, 29, 30, 31, 32, 33, 34, 35, 36, 37, 38, 39, 40, 41, 42] (by decide +kernel) (by decide +kernel)
set_option maxRecDepth 20000 in
theorem gX5_fit_X5_fitMany : GoodIn wsX5_fit (wsV RX5 141 RX5 yX5_fitMany wsX5_fitMany) := goodIn_app (goodIn_of _ (by decide +kernel)) ggX5_fit_X5_fitMany
theorem dX5_fit_0 : decode cX5_fit 0 = .ok (.aload_n 0, 1) := by decide +kernel
theorem dX5_fit_1 : decode cX5_fit 1 = .ok (.iconst 0, 1) := by decide +kernel
theorem dX5_fit_2 : decode cX5_fit 2 = .ok (.putfield 43, 3) := by decide +kernel
theorem dX5_fit_5 : decode cX5_fit 5 = .ok (.iload_n 1, 1) := by decide +kernel
theorem dX5_fit_6 : decode cX5_fit 6 = .ok (.iconst 0, 1) := by decide +kernel
theorem dX5_fit_7 : decode cX5_fit 7 = .ok (.iconst 1, 1) := by decide +kernel
theorem dX5_fit_8 : decode cX5_fit 8 = .ok (.invokestatic 81, 3) := by decide +kernel
theorem dX5_fit_11 : decode cX5_fit 11 = .ok (.ifCond .ne 5, 3) := by decide +kernel
theorem dX5_fit_14 : decode cX5_fit 14 = .ok (.iconst (-1), 1) := by decide +kernel
theorem dX5_fit_15 : decode cX5_fit 15 = .ok (.ireturn, 1) := by decide +kernel
theorem dX5_fit_16 : decode cX5_fit 16 = .ok (.iconst 0, 1) := by decide +kernel
theorem dX5_fit_17 : decode cX5_fit 17 = .ok (.istore_n 2, 1) := by decide +kernel
theorem dX5_fit_18 : decode cX5_fit 18 = .ok (.iload_n 2, 1) := by decide +kernel
theorem dX5_fit_19 : decode cX5_fit 19 = .ok (.aload_n 0, 1) := by decide +kernel
theorem dX5_fit_20 : decode cX5_fit 20 = .ok (.getfield 67, 3) := by decide +kernel
theorem dX5_fit_23 : decode cX5_fit 23 = .ok (.if_icmp .ge 17, 3) := by decide +kernel
theorem dX5_fit_26 : decode cX5_fit 26 = .ok (.aload_n 0, 1) := by decide +kernel
theorem dX5_fit_27 : decode cX5_fit 27 = .ok (.iload_n 2, 1) := by decide +kernel
theorem dX5_fit_28 : decode cX5_fit 28 = .ok (.invokevirtual 138, 3) := by decide +kernel
theorem dX5_fit_31 : decode cX5_fit 31 = .ok (.ifCond .ne 9, 3) := by decide +kernel
theorem dX5_fit_34 : decode cX5_fit 34 = .ok (.iinc 2 1, 3) := by decide +kernel
theorem dX5_fit_37 : decode cX5_fit 37 = .ok (.goto (-19), 3) := by decide +kernel
theorem dX5_fit_40 : decode cX5_fit 40 = .ok (.iload_n 1, 1) := by decide +kernel
theorem dX5_fit_41 : decode cX5_fit 41 = .ok (.ifCond .ne 10, 3) := by decide +kernel
theorem dX5_fit_44 : decode cX5_fit 44 = .ok (.aload_n 0, 1) := by decide +kernel
theorem dX5_fit_45 : decode cX5_fit 45 = .ok (.invokevirtual 141, 3) := by decide +kernel
theorem dX5_fit_48 : decode cX5_fit 48 = .ok (.goto 17, 3) := by decide +kernel
theorem dX5_fit_51 : decode cX5_fit 51 = .ok (.iload_n 2, 1) := by decide +kernel
theorem dX5_fit_52 : decode cX5_fit 52 = .ok (.aload_n 0, 1) := by decide +kernel
theorem dX5_fit_53 : decode cX5_fit 53 = .ok (.getfield 67, 3) := by decide +kernel
theorem dX5_fit_56 : decode cX5_fit 56 = .ok (.if_icmp .ne 8, 3) := by decide +kernel
theorem dX5_fit_59 : decode cX5_fit 59 = .ok (.bipush (-9), 2) := by decide +kernel
theorem dX5_fit_61 : decode cX5_fit 61 = .ok (.goto 4, 3) := by decide +kernel
theorem dX5_fit_64 : decode cX5_fit 64 = .ok (.iload_n 2, 1) := by decide +kernel
theorem dX5_fit_65 : decode cX5_fit 65 = .ok (.ireturn, 1) := by decide +kernel
set_option maxRecDepth 20000 in
theorem ggX5_ask_X5_fitMany : GoodIn wsX5_ask wsX5_fitMany := goodIn_r _ [9, 2, 10, 11, 12, 8, 13, 14, 4, 15, 16, 17, 18, 19, 20, 21, 22, 23, 24, 25, 26, 27, 28, 29, 30, 31, 32, 33, 34, 35, 36, 37, 38, 39, 40] (by decide +kernel) (by decide +kernel)
set_option maxRecDepth 20000 in
theorem gX5_ask_X5_fitMany : GoodIn wsX5_ask (wsV RX5 141 RX5 yX5_fitMany wsX5_fitMany) := goodIn_app (goodIn_of _ (by decide +kernel)) ggX5_ask_X5_fitMany
set_option maxRecDepth 20000 in
theorem ggX5_ask_X5_fits : GoodIn wsX5_ask wsX5_fits := goodIn_r _ [13, 14, 4, 15, 16, 17, 18, 19, 8, 20, 21, 22, 23, 24, 25, 26, 27, 28, 29, 30, 31, 32, 33, 34, 35, 36, 37, 38, 39, 40] (by decide +kernel) (by decide +kernel)
set_option maxRecDepth 20000 in
theorem gX5_ask_X5_fits : GoodIn wsX5_ask (wsV RX5 138 RX5 yX5_fits wsX5_fits) := goodIn_app (goodIn_of _ (by decide +kernel)) ggX5_ask_X5_fits
set_option maxRecDepth 20000 in
theorem ggX5_ask_X5_sign : GoodIn wsX5_ask wsX5_sign := goodIn_r _ [20, 21, 22, 23, 8, 24] (by decide +kernel) (by decide +kernel)
set_option maxRecDepth 20000 in
theorem gX5_ask_X5_sign : GoodIn wsX5_ask (va_wsS RX5 52 yX5_sign wsX5_sign) := goodIn_app (goodIn_of _ (by decide +kernel)) ggX5_ask_X5_sign
theorem dX5_ask_0 : decode cX5_ask 0 = .ok (.aload_n 0, 1) := by decide +kernel
theorem dX5_ask_1 : decode cX5_ask 1 = .ok (.iconst 0, 1) := by decide +kernel
theorem dX5_ask_2 : decode cX5_ask 2 = .ok (.putfield 43, 3) := by decide +kernel
theorem dX5_ask_5 : decode cX5_ask 5 = .ok (.aload_n 0, 1) := by decide +kernel
theorem dX5_ask_6 : decode cX5_ask 6 = .ok (.invokevirtual 141, 3) := by decide +kernel
theorem dX5_ask_9 : decode cX5_ask 9 = .ok (.istore_n 1, 1) := by decide +kernel
theorem dX5_ask_10 : decode cX5_ask 10 = .ok (.bipush (-9), 2) := by decide +kernel
theorem dX5_ask_12 : decode cX5_ask 12 = .ok (.istore_n 2, 1) := by decide +kernel
theorem dX5_ask_13 : decode cX5_ask 13 = .ok (.bipush 99, 2) := by decide +kernel
theorem dX5_ask_15 : decode cX5_ask 15 = .ok (.istore_n 3, 1) := by decide +kernel
theorem dX5_ask_16 : decode cX5_ask 16 = .ok (.iconst 0, 1) := by decide +kernel
theorem dX5_ask_17 : decode cX5_ask 17 = .ok (.istore 4, 2) := by decide +kernel
theorem dX5_ask_19 : decode cX5_ask 19 = .ok (.iload 4, 2) := by decide +kernel
theorem dX5_ask_21 : decode cX5_ask 21 = .ok (.aload_n 0, 1) := by decide +kernel
theorem dX5_ask_22 : decode cX5_ask 22 = .ok (.getfield 67, 3) := by decide +kernel
theorem dX5_ask_25 : decode cX5_ask 25 = .ok (.if_icmp .ge 22, 3) := by decide +kernel
theorem dX5_ask_28 : decode cX5_ask 28 = .ok (.aload_n 0, 1) := by decide +kernel
theorem dX5_ask_29 : decode cX5_ask 29 = .ok (.getfield 39, 3) := by decide +kernel
theorem dX5_ask_32 : decode cX5_ask 32 = .ok (.iload 4, 2) := by decide +kernel
theorem dX5_ask_34 : decode cX5_ask 34 = .ok (.aload_n 0, 1) := by decide +kernel
theorem dX5_ask_35 : decode cX5_ask 35 = .ok (.iload 4, 2) := by decide +kernel
theorem dX5_ask_37 : decode cX5_ask 37 = .ok (.invokevirtual 138, 3) := by decide +kernel
theorem dX5_ask_40 : decode cX5_ask 40 = .ok (.bastore, 1) := by decide +kernel
theorem dX5_ask_41 : decode cX5_ask 41 = .ok (.iinc 4 1, 3) := by decide +kernel
theorem dX5_ask_44 : decode cX5_ask 44 = .ok (.goto (-25), 3) := by decide +kernel
theorem dX5_ask_47 : decode cX5_ask 47 = .ok (.iconst 0, 1) := by decide +kernel
theorem dX5_ask_48 : decode cX5_ask 48 = .ok (.istore 4, 2) := by decide +kernel
theorem dX5_ask_50 : decode cX5_ask 50 = .ok (.iload 4, 2) := by decide +kernel
theorem dX5_ask_52 : decode cX5_ask 52 = .ok (.bipush 7, 2) := by decide +kernel
theorem dX5_ask_54 : decode cX5_ask 54 = .ok (.if_icmp .ge 142, 3) := by decide +kernel
theorem dX5_ask_57 : decode cX5_ask 57 = .ok (.iload_n 1, 1) := by decide +kernel
theorem dX5_ask_58 : decode cX5_ask 58 = .ok (.iconst 1, 1) := by decide +kernel
theorem dX5_ask_59 : decode cX5_ask 59 = .ok (.if_icmp .le 137, 3) := by decide +kernel
theorem dX5_ask_62 : decode cX5_ask 62 = .ok (.iconst 1, 1) := by decide +kernel
theorem dX5_ask_63 : decode cX5_ask 63 = .ok (.istore 5, 2) := by decide +kernel
theorem dX5_ask_65 : decode cX5_ask 65 = .ok (.iload 5, 2) := by decide +kernel
theorem dX5_ask_67 : decode cX5_ask 67 = .ok (.bipush 27, 2) := by decide +kernel
theorem dX5_ask_69 : decode cX5_ask 69 = .ok (.if_icmp .ge 121, 3) := by decide +kernel
theorem dX5_ask_72 : decode cX5_ask 72 = .ok (.iconst 0, 1) := by decide +kernel
theorem dX5_ask_73 : decode cX5_ask 73 = .ok (.istore 6, 2) := by decide +kernel
theorem dX5_ask_75 : decode cX5_ask 75 = .ok (.iconst 0, 1) := by decide +kernel
theorem dX5_ask_76 : decode cX5_ask 76 = .ok (.istore 7, 2) := by decide +kernel
theorem dX5_ask_78 : decode cX5_ask 78 = .ok (.iload 7, 2) := by decide +kernel
theorem dX5_ask_80 : decode cX5_ask 80 = .ok (.aload_n 0, 1) := by decide +kernel
theorem dX5_ask_81 : decode cX5_ask 81 = .ok (.getfield 67, 3) := by decide +kernel
theorem dX5_ask_84 : decode cX5_ask 84 = .ok (.if_icmp .ge 46, 3) := by decide +kernel
theorem dX5_ask_87 : decode cX5_ask 87 = .ok (.iload 6, 2) := by decide +kernel
theorem dX5_ask_89 : decode cX5_ask 89 = .ok (.aload_n 0, 1) := by decide +kernel
theorem dX5_ask_90 : decode cX5_ask 90 = .ok (.getfield 39, 3) := by decide +kernel
theorem dX5_ask_93 : decode cX5_ask 93 = .ok (.iload 7, 2) := by decide +kernel
theorem dX5_ask_95 : decode cX5_ask 95 = .ok (.baload, 1) := by decide +kernel
theorem dX5_ask_96 : decode cX5_ask 96 = .ok (.ifCond .eq 24, 3) := by decide +kernel
theorem dX5_ask_99 : decode cX5_ask 99 = .ok (.aload_n 0, 1) := by decide +kernel
theorem dX5_ask_100 : decode cX5_ask 100 = .ok (.getfield 17, 3) := by decide +kernel
theorem dX5_ask_103 : decode cX5_ask 103 = .ok (.iload 7, 2) := by decide +kernel
theorem dX5_ask_105 : decode cX5_ask 105 = .ok (.laload, 1) := by decide +kernel
theorem dX5_ask_106 : decode cX5_ask 106 = .ok (.iload 4, 2) := by decide +kernel
theorem dX5_ask_108 : decode cX5_ask 108 = .ok (.invokestatic 52, 3) := by decide +kernel
theorem dX5_ask_111 : decode cX5_ask 111 = .ok (.iload 5, 2) := by decide +kernel
theorem dX5_ask_113 : decode cX5_ask 113 = .ok (.if_icmp .ne 7, 3) := by decide +kernel
theorem dX5_ask_116 : decode cX5_ask 116 = .ok (.iconst 1, 1) := by decide +kernel
theorem dX5_ask_117 : decode cX5_ask 117 = .ok (.goto 4, 3) := by decide +kernel
theorem dX5_ask_120 : decode cX5_ask 120 = .ok (.iconst 0, 1) := by decide +kernel
theorem dX5_ask_121 : decode cX5_ask 121 = .ok (.iadd, 1) := by decide +kernel
theorem dX5_ask_122 : decode cX5_ask 122 = .ok (.istore 6, 2) := by decide +kernel
theorem dX5_ask_124 : decode cX5_ask 124 = .ok (.iinc 7 1, 3) := by decide +kernel
theorem dX5_ask_127 : decode cX5_ask 127 = .ok (.goto (-49), 3) := by decide +kernel
theorem dX5_ask_130 : decode cX5_ask 130 = .ok (.iload 6, 2) := by decide +kernel
theorem dX5_ask_132 : decode cX5_ask 132 = .ok (.iload_n 1, 1) := by decide +kernel
theorem dX5_ask_133 : decode cX5_ask 133 = .ok (.iload 6, 2) := by decide +kernel
theorem dX5_ask_135 : decode cX5_ask 135 = .ok (.isub, 1) := by decide +kernel
theorem dX5_ask_136 : decode cX5_ask 136 = .ok (.if_icmp .le 8, 3) := by decide +kernel
theorem dX5_ask_139 : decode cX5_ask 139 = .ok (.iload 6, 2) := by decide +kernel
theorem dX5_ask_141 : decode cX5_ask 141 = .ok (.goto 7, 3) := by decide +kernel
theorem dX5_ask_144 : decode cX5_ask 144 = .ok (.iload_n 1, 1) := by decide +kernel
theorem dX5_ask_145 : decode cX5_ask 145 = .ok (.iload 6, 2) := by decide +kernel
theorem dX5_ask_147 : decode cX5_ask 147 = .ok (.isub, 1) := by decide +kernel
theorem dX5_ask_148 : decode cX5_ask 148 = .ok (.istore 7, 2) := by decide +kernel
theorem dX5_ask_150 : decode cX5_ask 150 = .ok (.iload 7, 2) := by decide +kernel
theorem dX5_ask_152 : decode cX5_ask 152 = .ok (.iload_n 3, 1) := by decide +kernel
theorem dX5_ask_153 : decode cX5_ask 153 = .ok (.if_icmp .ge 16, 3) := by decide +kernel
theorem dX5_ask_156 : decode cX5_ask 156 = .ok (.bipush 32, 2) := by decide +kernel
theorem dX5_ask_158 : decode cX5_ask 158 = .ok (.iload 4, 2) := by decide +kernel
theorem dX5_ask_160 : decode cX5_ask 160 = .ok (.imul, 1) := by decide +kernel
theorem dX5_ask_161 : decode cX5_ask 161 = .ok (.iload 5, 2) := by decide +kernel
theorem dX5_ask_163 : decode cX5_ask 163 = .ok (.iadd, 1) := by decide +kernel
theorem dX5_ask_164 : decode cX5_ask 164 = .ok (.iconst 1, 1) := by decide +kernel
theorem dX5_ask_165 : decode cX5_ask 165 = .ok (.isub, 1) := by decide +kernel
theorem dX5_ask_166 : decode cX5_ask 166 = .ok (.goto 4, 3) := by decide +kernel
theorem dX5_ask_169 : decode cX5_ask 169 = .ok (.iload_n 2, 1) := by decide +kernel
theorem dX5_ask_170 : decode cX5_ask 170 = .ok (.istore_n 2, 1) := by decide +kernel
theorem dX5_ask_171 : decode cX5_ask 171 = .ok (.iload 7, 2) := by decide +kernel
theorem dX5_ask_173 : decode cX5_ask 173 = .ok (.iload_n 3, 1) := by decide +kernel
theorem dX5_ask_174 : decode cX5_ask 174 = .ok (.if_icmp .ge 8, 3) := by decide +kernel
theorem dX5_ask_177 : decode cX5_ask 177 = .ok (.iload 7, 2) := by decide +kernel
theorem dX5_ask_179 : decode cX5_ask 179 = .ok (.goto 4, 3) := by decide +kernel
theorem dX5_ask_182 : decode cX5_ask 182 = .ok (.iload_n 3, 1) := by decide +kernel
theorem dX5_ask_183 : decode cX5_ask 183 = .ok (.istore_n 3, 1) := by decide +kernel
theorem dX5_ask_184 : decode cX5_ask 184 = .ok (.iinc 5 1, 3) := by decide +kernel
theorem dX5_ask_187 : decode cX5_ask 187 = .ok (.goto (-122), 3) := by decide +kernel
theorem dX5_ask_190 : decode cX5_ask 190 = .ok (.iinc 4 1, 3) := by decide +kernel
theorem dX5_ask_193 : decode cX5_ask 193 = .ok (.goto (-143), 3) := by decide +kernel
theorem dX5_ask_196 : decode cX5_ask 196 = .ok (.iload_n 2, 1) := by decide +kernel
theorem dX5_ask_197 : decode cX5_ask 197 = .ok (.ireturn, 1) := by decide +kernel
set_option maxRecDepth 20000 in
theorem ggX5_containers_X5_containerSize : GoodIn wsX5_containers wsX5_containerSize := goodIn_r _ [7, 8, 9, 6, 10, 11, 12, 13, 14, 15, 16, 17, 18, 19, 20, 21, 22, 23, 24, 25, 26, 27, 28, 29, 30, 31, 32, 33, 34, 35, 36, 37, 38, 39, 40, 41, 42] (by decide +kernel) (by decide +kernel)
set_option maxRecDepth 20000 in
theorem gX5_containers_X5_containerSize : GoodIn wsX5_containers (wsV RX5 88 RX5 yX5_containerSize wsX5_containerSize) := goodIn_app (goodIn_of _ (by decide +kernel)) ggX5_containers_X5_containerSize
set_option maxRecDepth 20000 in
theorem ggX5_containers_X5_head : GoodIn wsX5_containers wsX5_head := goodIn_r _ [20, 15, 16, 6, 17, 14] (by decide +kernel) (by decide +kernel)
set_option maxRecDepth 20000 in
theorem gX5_containers_X5_head : GoodIn wsX5_containers (va_wsS RX5 63 yX5_head wsX5_head) := goodIn_app (goodIn_of _ (by decide +kernel)) ggX5_containers_X5_head
theorem dX5_containers_0 : decode cX5_containers 0 = .ok (.iconst 0, 1) := by decide +kernel
theorem dX5_containers_1 : decode cX5_containers 1 = .ok (.istore_n 1, 1) := by decide +kernel
theorem dX5_containers_2 : decode cX5_containers 2 = .ok (.iconst 0, 1) := by decide +kernel
theorem dX5_containers_3 : decode cX5_containers 3 = .ok (.istore_n 2, 1) := by decide +kernel
theorem dX5_containers_4 : decode cX5_containers 4 = .ok (.iload_n 2, 1) := by decide +kernel
theorem dX5_containers_5 : decode cX5_containers 5 = .ok (.aload_n 0, 1) := by decide +kernel
theorem dX5_containers_6 : decode cX5_containers 6 = .ok (.getfield 67, 3) := by decide +kernel
theorem dX5_containers_9 : decode cX5_containers 9 = .ok (.if_icmp .ge 90, 3) := by decide +kernel
theorem dX5_containers_12 : decode cX5_containers 12 = .ok (.aload_n 0, 1) := by decide +kernel
theorem dX5_containers_13 : decode cX5_containers 13 = .ok (.aload_n 0, 1) := by decide +kernel
theorem dX5_containers_14 : decode cX5_containers 14 = .ok (.getfield 17, 3) := by decide +kernel
theorem dX5_containers_17 : decode cX5_containers 17 = .ok (.iload_n 2, 1) := by decide +kernel
theorem dX5_containers_18 : decode cX5_containers 18 = .ok (.laload, 1) := by decide +kernel
theorem dX5_containers_19 : decode cX5_containers 19 = .ok (.invokevirtual 88, 3) := by decide +kernel
theorem dX5_containers_22 : decode cX5_containers 22 = .ok (.istore_n 3, 1) := by decide +kernel
theorem dX5_containers_23 : decode cX5_containers 23 = .ok (.iload_n 3, 1) := by decide +kernel
theorem dX5_containers_24 : decode cX5_containers 24 = .ok (.ifCond .lt 53, 3) := by decide +kernel
theorem dX5_containers_27 : decode cX5_containers 27 = .ok (.iload_n 2, 1) := by decide +kernel
theorem dX5_containers_28 : decode cX5_containers 28 = .ok (.ifCond .eq 45, 3) := by decide +kernel
theorem dX5_containers_31 : decode cX5_containers 31 = .ok (.aload_n 0, 1) := by decide +kernel
theorem dX5_containers_32 : decode cX5_containers 32 = .ok (.aload_n 0, 1) := by decide +kernel
theorem dX5_containers_33 : decode cX5_containers 33 = .ok (.getfield 17, 3) := by decide +kernel
theorem dX5_containers_36 : decode cX5_containers 36 = .ok (.iload_n 2, 1) := by decide +kernel
theorem dX5_containers_37 : decode cX5_containers 37 = .ok (.iconst 1, 1) := by decide +kernel
theorem dX5_containers_38 : decode cX5_containers 38 = .ok (.isub, 1) := by decide +kernel
theorem dX5_containers_39 : decode cX5_containers 39 = .ok (.laload, 1) := by decide +kernel
theorem dX5_containers_40 : decode cX5_containers 40 = .ok (.invokevirtual 88, 3) := by decide +kernel
theorem dX5_containers_43 : decode cX5_containers 43 = .ok (.iload_n 3, 1) := by decide +kernel
theorem dX5_containers_44 : decode cX5_containers 44 = .ok (.if_icmp .ne 29, 3) := by decide +kernel
theorem dX5_containers_47 : decode cX5_containers 47 = .ok (.aload_n 0, 1) := by decide +kernel
theorem dX5_containers_48 : decode cX5_containers 48 = .ok (.getfield 17, 3) := by decide +kernel
theorem dX5_containers_51 : decode cX5_containers 51 = .ok (.iload_n 2, 1) := by decide +kernel
theorem dX5_containers_52 : decode cX5_containers 52 = .ok (.iconst 1, 1) := by decide +kernel
theorem dX5_containers_53 : decode cX5_containers 53 = .ok (.isub, 1) := by decide +kernel
theorem dX5_containers_54 : decode cX5_containers 54 = .ok (.laload, 1) := by decide +kernel
theorem dX5_containers_55 : decode cX5_containers 55 = .ok (.iload_n 3, 1) := by decide +kernel
theorem dX5_containers_56 : decode cX5_containers 56 = .ok (.invokestatic 63, 3) := by decide +kernel
theorem dX5_containers_59 : decode cX5_containers 59 = .ok (.aload_n 0, 1) := by decide +kernel
theorem dX5_containers_60 : decode cX5_containers 60 = .ok (.getfield 17, 3) := by decide +kernel
theorem dX5_containers_63 : decode cX5_containers 63 = .ok (.iload_n 2, 1) := by decide +kernel
theorem dX5_containers_64 : decode cX5_containers 64 = .ok (.laload, 1) := by decide +kernel
theorem dX5_containers_65 : decode cX5_containers 65 = .ok (.iload_n 3, 1) := by decide +kernel
theorem dX5_containers_66 : decode cX5_containers 66 = .ok (.invokestatic 63, 3) := by decide +kernel
theorem dX5_containers_69 : decode cX5_containers 69 = .ok (.lcmp, 1) := by decide +kernel
theorem dX5_containers_70 : decode cX5_containers 70 = .ok (.ifCond .eq 7, 3) := by decide +kernel
theorem dX5_containers_73 : decode cX5_containers 73 = .ok (.iconst 1, 1) := by decide +kernel
theorem dX5_containers_74 : decode cX5_containers 74 = .ok (.goto 4, 3) := by decide +kernel
theorem dX5_containers_77 : decode cX5_containers 77 = .ok (.iconst 0, 1) := by decide +kernel
theorem dX5_containers_78 : decode cX5_containers 78 = .ok (.istore 4, 2) := by decide +kernel
theorem dX5_containers_80 : decode cX5_containers 80 = .ok (.iload_n 1, 1) := by decide +kernel
theorem dX5_containers_81 : decode cX5_containers 81 = .ok (.iload 4, 2) := by decide +kernel
theorem dX5_containers_83 : decode cX5_containers 83 = .ok (.ifCond .eq 7, 3) := by decide +kernel
theorem dX5_containers_86 : decode cX5_containers 86 = .ok (.iconst 1, 1) := by decide +kernel
theorem dX5_containers_87 : decode cX5_containers 87 = .ok (.goto 4, 3) := by decide +kernel
theorem dX5_containers_90 : decode cX5_containers 90 = .ok (.iconst 0, 1) := by decide +kernel
theorem dX5_containers_91 : decode cX5_containers 91 = .ok (.iadd, 1) := by decide +kernel
theorem dX5_containers_92 : decode cX5_containers 92 = .ok (.istore_n 1, 1) := by decide +kernel
theorem dX5_containers_93 : decode cX5_containers 93 = .ok (.iinc 2 1, 3) := by decide +kernel
theorem dX5_containers_96 : decode cX5_containers 96 = .ok (.goto (-92), 3) := by decide +kernel
theorem dX5_containers_99 : decode cX5_containers 99 = .ok (.iload_n 1, 1) := by decide +kernel
theorem dX5_containers_100 : decode cX5_containers 100 = .ok (.ireturn, 1) := by decide +kernel
set_option maxRecDepth 20000 in
theorem ggX5_fullest_X5_containerSize : GoodIn wsX5_fullest wsX5_containerSize := goodIn_r _ [7, 8, 9, 6, 10, 11, 12, 13, 14, 15, 16, 17, 18, 19, 20, 21, 22, 23, 24, 25, 26, 34, 35, 36, 37, 38, 39, 40, 41, 42, 43, 44, 45, 46, 47, 48, 49] (by decide +kernel) (by decide +kernel)
set_option maxRecDepth 20000 in
theorem gX5_fullest_X5_containerSize : GoodIn wsX5_fullest (wsV RX5 88 RX5 yX5_containerSize wsX5_containerSize) := goodIn_app (goodIn_of _ (by decide +kernel)) ggX5_fullest_X5_containerSize
set_option maxRecDepth 20000 in
theorem ggX5_fullest_X5_head : GoodIn wsX5_fullest wsX5_head := goodIn_r _ [20, 15, 16, 6, 17, 14] (by decide +kernel) (by decide +kernel)
set_option maxRecDepth 20000 in
theorem gX5_fullest_X5_head : GoodIn wsX5_fullest (va_wsS RX5 63 yX5_head wsX5_head) := goodIn_app (goodIn_of _ (by decide +kernel)) ggX5_fullest_X5_head
set_option maxRecDepth 20000 in
theorem ggX5_fullest_X5_beginning : GoodIn wsX5_fullest wsX5_beginning := goodIn_r _ [30, 1, 2, 31, 32, 6, 33, 8, 9, 10, 11, 12, 13, 14, 15, 16, 17, 18, 19, 20, 34, 35, 36, 37, 38, 39, 40, 41, 42, 43, 44, 45, 46, 47, 48, 49] (by decide +kernel) (by decide +kernel)
set_option maxRecDepth 20000 in
theorem gX5_fullest_X5_beginning : GoodIn wsX5_fullest (wsV RX5 91 RX5 yX5_beginning wsX5_beginning) := goodIn_app (goodIn_of _ (by decide +kernel)) ggX5_fullest_X5_beginning
theorem dX5_fullest_0 : decode cX5_fullest 0 = .ok (.iconst 0, 1) := by decide +kernel
theorem dX5_fullest_1 : decode cX5_fullest 1 = .ok (.istore_n 1, 1) := by decide +kernel
theorem dX5_fullest_2 : decode cX5_fullest 2 = .ok (.iconst 0, 1) := by decide +kernel
theorem dX5_fullest_3 : decode cX5_fullest 3 = .ok (.istore_n 2, 1) := by decide +kernel
theorem dX5_fullest_4 : decode cX5_fullest 4 = .ok (.iload_n 2, 1) := by decide +kernel
theorem dX5_fullest_5 : decode cX5_fullest 5 = .ok (.aload_n 0, 1) := by decide +kernel
theorem dX5_fullest_6 : decode cX5_fullest 6 = .ok (.getfield 67, 3) := by decide +kernel
theorem dX5_fullest_9 : decode cX5_fullest 9 = .ok (.if_icmp .ge 57, 3) := by decide +kernel
theorem dX5_fullest_12 : decode cX5_fullest 12 = .ok (.aload_n 0, 1) := by decide +kernel
theorem dX5_fullest_13 : decode cX5_fullest 13 = .ok (.aload_n 0, 1) := by decide +kernel
theorem dX5_fullest_14 : decode cX5_fullest 14 = .ok (.getfield 17, 3) := by decide +kernel
theorem dX5_fullest_17 : decode cX5_fullest 17 = .ok (.iload_n 2, 1) := by decide +kernel
theorem dX5_fullest_18 : decode cX5_fullest 18 = .ok (.laload, 1) := by decide +kernel
theorem dX5_fullest_19 : decode cX5_fullest 19 = .ok (.invokevirtual 88, 3) := by decide +kernel
theorem dX5_fullest_22 : decode cX5_fullest 22 = .ok (.istore_n 3, 1) := by decide +kernel
theorem dX5_fullest_23 : decode cX5_fullest 23 = .ok (.iload_n 3, 1) := by decide +kernel
theorem dX5_fullest_24 : decode cX5_fullest 24 = .ok (.ifCond .ge 7, 3) := by decide +kernel
theorem dX5_fullest_27 : decode cX5_fullest 27 = .ok (.iconst 0, 1) := by decide +kernel
theorem dX5_fullest_28 : decode cX5_fullest 28 = .ok (.goto 17, 3) := by decide +kernel
theorem dX5_fullest_31 : decode cX5_fullest 31 = .ok (.aload_n 0, 1) := by decide +kernel
theorem dX5_fullest_32 : decode cX5_fullest 32 = .ok (.aload_n 0, 1) := by decide +kernel
theorem dX5_fullest_33 : decode cX5_fullest 33 = .ok (.getfield 17, 3) := by decide +kernel
theorem dX5_fullest_36 : decode cX5_fullest 36 = .ok (.iload_n 2, 1) := by decide +kernel
theorem dX5_fullest_37 : decode cX5_fullest 37 = .ok (.laload, 1) := by decide +kernel
theorem dX5_fullest_38 : decode cX5_fullest 38 = .ok (.iload_n 3, 1) := by decide +kernel
theorem dX5_fullest_39 : decode cX5_fullest 39 = .ok (.invokestatic 63, 3) := by decide +kernel
theorem dX5_fullest_42 : decode cX5_fullest 42 = .ok (.invokevirtual 91, 3) := by decide +kernel
theorem dX5_fullest_45 : decode cX5_fullest 45 = .ok (.istore 4, 2) := by decide +kernel
theorem dX5_fullest_47 : decode cX5_fullest 47 = .ok (.iload 4, 2) := by decide +kernel
theorem dX5_fullest_49 : decode cX5_fullest 49 = .ok (.iload_n 1, 1) := by decide +kernel
theorem dX5_fullest_50 : decode cX5_fullest 50 = .ok (.if_icmp .le 8, 3) := by decide +kernel
theorem dX5_fullest_53 : decode cX5_fullest 53 = .ok (.iload 4, 2) := by decide +kernel
theorem dX5_fullest_55 : decode cX5_fullest 55 = .ok (.goto 4, 3) := by decide +kernel
theorem dX5_fullest_58 : decode cX5_fullest 58 = .ok (.iload_n 1, 1) := by decide +kernel
theorem dX5_fullest_59 : decode cX5_fullest 59 = .ok (.istore_n 1, 1) := by decide +kernel
theorem dX5_fullest_60 : decode cX5_fullest 60 = .ok (.iinc 2 1, 3) := by decide +kernel
theorem dX5_fullest_63 : decode cX5_fullest 63 = .ok (.goto (-59), 3) := by decide +kernel
theorem dX5_fullest_66 : decode cX5_fullest 66 = .ok (.iload_n 1, 1) := by decide +kernel
theorem dX5_fullest_67 : decode cX5_fullest 67 = .ok (.ireturn, 1) := by decide +kernel
set_option maxRecDepth 20000 in
theorem ggX5_deepest_X5_depthOf : GoodIn wsX5_deepest wsX5_depthOf := goodIn_r _ [7, 8, 9, 6, 10, 11, 12, 13, 14, 15, 16, 17, 18, 19, 20, 21, 22, 23, 24, 25, 26, 27, 28, 29, 30, 31, 32, 33, 34, 35, 36, 37, 38, 39, 40, 41, 42] (by decide +kernel) (by decide +kernel)
set_option maxRecDepth 20000 in
theorem gX5_deepest_X5_depthOf : GoodIn wsX5_deepest (wsV RX5 117 RX5 yX5_depthOf wsX5_depthOf) := goodIn_app (goodIn_of _ (by decide +kernel)) ggX5_deepest_X5_depthOf
theorem dX5_deepest_0 : decode cX5_deepest 0 = .ok (.iconst 0, 1) := by decide +kernel
theorem dX5_deepest_1 : decode cX5_deepest 1 = .ok (.istore_n 1, 1) := by decide +kernel
theorem dX5_deepest_2 : decode cX5_deepest 2 = .ok (.iconst 0, 1) := by decide +kernel
theorem dX5_deepest_3 : decode cX5_deepest 3 = .ok (.istore_n 2, 1) := by decide +kernel
theorem dX5_deepest_4 : decode cX5_deepest 4 = .ok (.iload_n 2, 1) := by decide +kernel
theorem dX5_deepest_5 : decode cX5_deepest 5 = .ok (.aload_n 0, 1) := by decide +kernel
theorem dX5_deepest_6 : decode cX5_deepest 6 = .ok (.getfield 67, 3) := by decide +kernel
theorem dX5_deepest_9 : decode cX5_deepest 9 = .ok (.if_icmp .ge 38, 3) := by decide +kernel
theorem dX5_deepest_12 : decode cX5_deepest 12 = .ok (.aload_n 0, 1) := by decide +kernel
theorem dX5_deepest_13 : decode cX5_deepest 13 = .ok (.aload_n 0, 1) := by decide +kernel
theorem dX5_deepest_14 : decode cX5_deepest 14 = .ok (.getfield 17, 3) := by decide +kernel
theorem dX5_deepest_17 : decode cX5_deepest 17 = .ok (.iload_n 2, 1) := by decide +kernel
theorem dX5_deepest_18 : decode cX5_deepest 18 = .ok (.laload, 1) := by decide +kernel
theorem dX5_deepest_19 : decode cX5_deepest 19 = .ok (.invokevirtual 117, 3) := by decide +kernel
theorem dX5_deepest_22 : decode cX5_deepest 22 = .ok (.iload_n 1, 1) := by decide +kernel
theorem dX5_deepest_23 : decode cX5_deepest 23 = .ok (.if_icmp .le 16, 3) := by decide +kernel
theorem dX5_deepest_26 : decode cX5_deepest 26 = .ok (.aload_n 0, 1) := by decide +kernel
theorem dX5_deepest_27 : decode cX5_deepest 27 = .ok (.aload_n 0, 1) := by decide +kernel
theorem dX5_deepest_28 : decode cX5_deepest 28 = .ok (.getfield 17, 3) := by decide +kernel
theorem dX5_deepest_31 : decode cX5_deepest 31 = .ok (.iload_n 2, 1) := by decide +kernel
theorem dX5_deepest_32 : decode cX5_deepest 32 = .ok (.laload, 1) := by decide +kernel
theorem dX5_deepest_33 : decode cX5_deepest 33 = .ok (.invokevirtual 117, 3) := by decide +kernel
theorem dX5_deepest_36 : decode cX5_deepest 36 = .ok (.goto 4, 3) := by decide +kernel
theorem dX5_deepest_39 : decode cX5_deepest 39 = .ok (.iload_n 1, 1) := by decide +kernel
theorem dX5_deepest_40 : decode cX5_deepest 40 = .ok (.istore_n 1, 1) := by decide +kernel
theorem dX5_deepest_41 : decode cX5_deepest 41 = .ok (.iinc 2 1, 3) := by decide +kernel
theorem dX5_deepest_44 : decode cX5_deepest 44 = .ok (.goto (-40), 3) := by decide +kernel
theorem dX5_deepest_47 : decode cX5_deepest 47 = .ok (.iload_n 1, 1) := by decide +kernel
theorem dX5_deepest_48 : decode cX5_deepest 48 = .ok (.ireturn, 1) := by decide +kernel
set_option maxRecDepth 20000 in
theorem ggX5_letters_X5_containerSize : GoodIn wsX5_letters wsX5_containerSize := goodIn_r _ [7, 8, 9, 6, 10, 11, 12, 13, 14, 15, 16, 17, 18, 19, 20, 21, 22, 23, 24, 25, 26, 27, 28, 29, 30, 31, 32, 33, 34, 35, 36, 37, 38, 39, 40, 41, 42] (by decide +kernel) (by decide +kernel)
set_option maxRecDepth 20000 in
theorem gX5_letters_X5_containerSize : GoodIn wsX5_letters (wsV RX5 88 RX5 yX5_containerSize wsX5_containerSize) := goodIn_app (goodIn_of _ (by decide +kernel)) ggX5_letters_X5_containerSize
set_option maxRecDepth 20000 in
theorem ggX5_letters_X5_size : GoodIn wsX5_letters wsX5_size := goodIn_r _ [10, 11, 12, 6, 13, 14, 15, 16, 17] (by decide +kernel) (by decide +kernel)
set_option maxRecDepth 20000 in
theorem gX5_letters_X5_size : GoodIn wsX5_letters (va_wsS RX5 59 yX5_size wsX5_size) := goodIn_app (goodIn_of _ (by decide +kernel)) ggX5_letters_X5_size
theorem dX5_letters_0 : decode cX5_letters 0 = .ok (.iconst 0, 1) := by decide +kernel
theorem dX5_letters_1 : decode cX5_letters 1 = .ok (.istore_n 1, 1) := by decide +kernel
theorem dX5_letters_2 : decode cX5_letters 2 = .ok (.iconst 0, 1) := by decide +kernel
theorem dX5_letters_3 : decode cX5_letters 3 = .ok (.istore_n 2, 1) := by decide +kernel
theorem dX5_letters_4 : decode cX5_letters 4 = .ok (.iload_n 2, 1) := by decide +kernel
theorem dX5_letters_5 : decode cX5_letters 5 = .ok (.aload_n 0, 1) := by decide +kernel
theorem dX5_letters_6 : decode cX5_letters 6 = .ok (.getfield 67, 3) := by decide +kernel
theorem dX5_letters_9 : decode cX5_letters 9 = .ok (.if_icmp .ge 42, 3) := by decide +kernel
theorem dX5_letters_12 : decode cX5_letters 12 = .ok (.aload_n 0, 1) := by decide +kernel
theorem dX5_letters_13 : decode cX5_letters 13 = .ok (.aload_n 0, 1) := by decide +kernel
theorem dX5_letters_14 : decode cX5_letters 14 = .ok (.getfield 17, 3) := by decide +kernel
theorem dX5_letters_17 : decode cX5_letters 17 = .ok (.iload_n 2, 1) := by decide +kernel
theorem dX5_letters_18 : decode cX5_letters 18 = .ok (.laload, 1) := by decide +kernel
theorem dX5_letters_19 : decode cX5_letters 19 = .ok (.invokevirtual 88, 3) := by decide +kernel
theorem dX5_letters_22 : decode cX5_letters 22 = .ok (.istore_n 3, 1) := by decide +kernel
theorem dX5_letters_23 : decode cX5_letters 23 = .ok (.iload_n 1, 1) := by decide +kernel
theorem dX5_letters_24 : decode cX5_letters 24 = .ok (.iload_n 3, 1) := by decide +kernel
theorem dX5_letters_25 : decode cX5_letters 25 = .ok (.ifCond .ge 7, 3) := by decide +kernel
theorem dX5_letters_28 : decode cX5_letters 28 = .ok (.iconst 0, 1) := by decide +kernel
theorem dX5_letters_29 : decode cX5_letters 29 = .ok (.goto 14, 3) := by decide +kernel
theorem dX5_letters_32 : decode cX5_letters 32 = .ok (.aload_n 0, 1) := by decide +kernel
theorem dX5_letters_33 : decode cX5_letters 33 = .ok (.getfield 17, 3) := by decide +kernel
theorem dX5_letters_36 : decode cX5_letters 36 = .ok (.iload_n 2, 1) := by decide +kernel
theorem dX5_letters_37 : decode cX5_letters 37 = .ok (.laload, 1) := by decide +kernel
theorem dX5_letters_38 : decode cX5_letters 38 = .ok (.invokestatic 59, 3) := by decide +kernel
theorem dX5_letters_41 : decode cX5_letters 41 = .ok (.iload_n 3, 1) := by decide +kernel
theorem dX5_letters_42 : decode cX5_letters 42 = .ok (.isub, 1) := by decide +kernel
theorem dX5_letters_43 : decode cX5_letters 43 = .ok (.iadd, 1) := by decide +kernel
theorem dX5_letters_44 : decode cX5_letters 44 = .ok (.istore_n 1, 1) := by decide +kernel
theorem dX5_letters_45 : decode cX5_letters 45 = .ok (.iinc 2 1, 3) := by decide +kernel
theorem dX5_letters_48 : decode cX5_letters 48 = .ok (.goto (-44), 3) := by decide +kernel
theorem dX5_letters_51 : decode cX5_letters 51 = .ok (.iload_n 1, 1) := by decide +kernel
theorem dX5_letters_52 : decode cX5_letters 52 = .ok (.ireturn, 1) := by decide +kernel
set_option maxRecDepth 20000 in
theorem ggX5_sharedBy_X5_sign : GoodIn wsX5_sharedBy wsX5_sign := goodIn_r _ [5, 6, 7, 8, 4, 9] (by decide +kernel) (by decide +kernel)
set_option maxRecDepth 20000 in
theorem gX5_sharedBy_X5_sign : GoodIn wsX5_sharedBy (va_wsS RX5 52 yX5_sign wsX5_sign) := goodIn_app (goodIn_of _ (by decide +kernel)) ggX5_sharedBy_X5_sign
theorem dX5_sharedBy_0 : decode cX5_sharedBy 0 = .ok (.iconst 0, 1) := by decide +kernel
theorem dX5_sharedBy_1 : decode cX5_sharedBy 1 = .ok (.istore_n 2, 1) := by decide +kernel
theorem dX5_sharedBy_2 : decode cX5_sharedBy 2 = .ok (.iload_n 2, 1) := by decide +kernel
theorem dX5_sharedBy_3 : decode cX5_sharedBy 3 = .ok (.bipush 7, 2) := by decide +kernel
theorem dX5_sharedBy_5 : decode cX5_sharedBy 5 = .ok (.if_icmp .ge 47, 3) := by decide +kernel
theorem dX5_sharedBy_8 : decode cX5_sharedBy 8 = .ok (.aload_n 0, 1) := by decide +kernel
theorem dX5_sharedBy_9 : decode cX5_sharedBy 9 = .ok (.getfield 17, 3) := by decide +kernel
theorem dX5_sharedBy_12 : decode cX5_sharedBy 12 = .ok (.iload_n 1, 1) := by decide +kernel
theorem dX5_sharedBy_13 : decode cX5_sharedBy 13 = .ok (.laload, 1) := by decide +kernel
theorem dX5_sharedBy_14 : decode cX5_sharedBy 14 = .ok (.iload_n 2, 1) := by decide +kernel
theorem dX5_sharedBy_15 : decode cX5_sharedBy 15 = .ok (.invokestatic 52, 3) := by decide +kernel
theorem dX5_sharedBy_18 : decode cX5_sharedBy 18 = .ok (.ifCond .le 34, 3) := by decide +kernel
theorem dX5_sharedBy_21 : decode cX5_sharedBy 21 = .ok (.aload_n 0, 1) := by decide +kernel
theorem dX5_sharedBy_22 : decode cX5_sharedBy 22 = .ok (.getfield 17, 3) := by decide +kernel
theorem dX5_sharedBy_25 : decode cX5_sharedBy 25 = .ok (.iload_n 1, 1) := by decide +kernel
theorem dX5_sharedBy_26 : decode cX5_sharedBy 26 = .ok (.laload, 1) := by decide +kernel
theorem dX5_sharedBy_27 : decode cX5_sharedBy 27 = .ok (.iload_n 2, 1) := by decide +kernel
theorem dX5_sharedBy_28 : decode cX5_sharedBy 28 = .ok (.invokestatic 52, 3) := by decide +kernel
theorem dX5_sharedBy_31 : decode cX5_sharedBy 31 = .ok (.aload_n 0, 1) := by decide +kernel
theorem dX5_sharedBy_32 : decode cX5_sharedBy 32 = .ok (.getfield 17, 3) := by decide +kernel
theorem dX5_sharedBy_35 : decode cX5_sharedBy 35 = .ok (.iload_n 1, 1) := by decide +kernel
theorem dX5_sharedBy_36 : decode cX5_sharedBy 36 = .ok (.iconst 1, 1) := by decide +kernel
theorem dX5_sharedBy_37 : decode cX5_sharedBy 37 = .ok (.iadd, 1) := by decide +kernel
theorem dX5_sharedBy_38 : decode cX5_sharedBy 38 = .ok (.laload, 1) := by decide +kernel
theorem dX5_sharedBy_39 : decode cX5_sharedBy 39 = .ok (.iload_n 2, 1) := by decide +kernel
theorem dX5_sharedBy_40 : decode cX5_sharedBy 40 = .ok (.invokestatic 52, 3) := by decide +kernel
theorem dX5_sharedBy_43 : decode cX5_sharedBy 43 = .ok (.if_icmp .ne 9, 3) := by decide +kernel
theorem dX5_sharedBy_46 : decode cX5_sharedBy 46 = .ok (.iinc 2 1, 3) := by decide +kernel
theorem dX5_sharedBy_49 : decode cX5_sharedBy 49 = .ok (.goto (-47), 3) := by decide +kernel
theorem dX5_sharedBy_52 : decode cX5_sharedBy 52 = .ok (.iload_n 2, 1) := by decide +kernel
theorem dX5_sharedBy_53 : decode cX5_sharedBy 53 = .ok (.ireturn, 1) := by decide +kernel
set_option maxRecDepth 20000 in
theorem ggX5_shared_X5_sharedBy : GoodIn wsX5_shared wsX5_sharedBy := goodIn_r _ [6, 7, 8, 9, 5, 10, 11, 12, 13, 14, 15, 16, 17, 18, 19, 20, 21, 22, 23, 24, 25, 26, 27, 28, 29, 30] (by decide +kernel) (by decide +kernel)
set_option maxRecDepth 20000 in
theorem gX5_shared_X5_sharedBy : GoodIn wsX5_shared (wsV RX5 144 RX5 yX5_sharedBy wsX5_sharedBy) := goodIn_app (goodIn_of _ (by decide +kernel)) ggX5_shared_X5_sharedBy
theorem dX5_shared_0 : decode cX5_shared 0 = .ok (.bipush (-9), 2) := by decide +kernel
theorem dX5_shared_2 : decode cX5_shared 2 = .ok (.istore_n 2, 1) := by decide +kernel
theorem dX5_shared_3 : decode cX5_shared 3 = .ok (.iconst 0, 1) := by decide +kernel
theorem dX5_shared_4 : decode cX5_shared 4 = .ok (.istore_n 3, 1) := by decide +kernel
theorem dX5_shared_5 : decode cX5_shared 5 = .ok (.iconst 0, 1) := by decide +kernel
theorem dX5_shared_6 : decode cX5_shared 6 = .ok (.istore 4, 2) := by decide +kernel
theorem dX5_shared_8 : decode cX5_shared 8 = .ok (.iload 4, 2) := by decide +kernel
theorem dX5_shared_10 : decode cX5_shared 10 = .ok (.iconst 1, 1) := by decide +kernel
theorem dX5_shared_11 : decode cX5_shared 11 = .ok (.iadd, 1) := by decide +kernel
theorem dX5_shared_12 : decode cX5_shared 12 = .ok (.aload_n 0, 1) := by decide +kernel
theorem dX5_shared_13 : decode cX5_shared 13 = .ok (.getfield 67, 3) := by decide +kernel
theorem dX5_shared_16 : decode cX5_shared 16 = .ok (.if_icmp .ge 54, 3) := by decide +kernel
theorem dX5_shared_19 : decode cX5_shared 19 = .ok (.aload_n 0, 1) := by decide +kernel
theorem dX5_shared_20 : decode cX5_shared 20 = .ok (.iload 4, 2) := by decide +kernel
theorem dX5_shared_22 : decode cX5_shared 22 = .ok (.invokevirtual 144, 3) := by decide +kernel
theorem dX5_shared_25 : decode cX5_shared 25 = .ok (.istore 5, 2) := by decide +kernel
theorem dX5_shared_27 : decode cX5_shared 27 = .ok (.iload 5, 2) := by decide +kernel
theorem dX5_shared_29 : decode cX5_shared 29 = .ok (.iload_n 2, 1) := by decide +kernel
theorem dX5_shared_30 : decode cX5_shared 30 = .ok (.if_icmp .le 7, 3) := by decide +kernel
theorem dX5_shared_33 : decode cX5_shared 33 = .ok (.iconst 1, 1) := by decide +kernel
theorem dX5_shared_34 : decode cX5_shared 34 = .ok (.goto 16, 3) := by decide +kernel
theorem dX5_shared_37 : decode cX5_shared 37 = .ok (.iload 5, 2) := by decide +kernel
theorem dX5_shared_39 : decode cX5_shared 39 = .ok (.iload_n 2, 1) := by decide +kernel
theorem dX5_shared_40 : decode cX5_shared 40 = .ok (.if_icmp .ne 9, 3) := by decide +kernel
theorem dX5_shared_43 : decode cX5_shared 43 = .ok (.iload_n 3, 1) := by decide +kernel
theorem dX5_shared_44 : decode cX5_shared 44 = .ok (.iconst 1, 1) := by decide +kernel
theorem dX5_shared_45 : decode cX5_shared 45 = .ok (.iadd, 1) := by decide +kernel
theorem dX5_shared_46 : decode cX5_shared 46 = .ok (.goto 4, 3) := by decide +kernel
theorem dX5_shared_49 : decode cX5_shared 49 = .ok (.iload_n 3, 1) := by decide +kernel
theorem dX5_shared_50 : decode cX5_shared 50 = .ok (.istore_n 3, 1) := by decide +kernel
theorem dX5_shared_51 : decode cX5_shared 51 = .ok (.iload 5, 2) := by decide +kernel
theorem dX5_shared_53 : decode cX5_shared 53 = .ok (.iload_n 2, 1) := by decide +kernel
theorem dX5_shared_54 : decode cX5_shared 54 = .ok (.if_icmp .le 8, 3) := by decide +kernel
theorem dX5_shared_57 : decode cX5_shared 57 = .ok (.iload 5, 2) := by decide +kernel
theorem dX5_shared_59 : decode cX5_shared 59 = .ok (.goto 4, 3) := by decide +kernel
theorem dX5_shared_62 : decode cX5_shared 62 = .ok (.iload_n 2, 1) := by decide +kernel
theorem dX5_shared_63 : decode cX5_shared 63 = .ok (.istore_n 2, 1) := by decide +kernel
theorem dX5_shared_64 : decode cX5_shared 64 = .ok (.iinc 4 1, 3) := by decide +kernel
theorem dX5_shared_67 : decode cX5_shared 67 = .ok (.goto (-59), 3) := by decide +kernel
theorem dX5_shared_70 : decode cX5_shared 70 = .ok (.iload_n 1, 1) := by decide +kernel
theorem dX5_shared_71 : decode cX5_shared 71 = .ok (.ifCond .eq 7, 3) := by decide +kernel
theorem dX5_shared_74 : decode cX5_shared 74 = .ok (.iload_n 2, 1) := by decide +kernel
theorem dX5_shared_75 : decode cX5_shared 75 = .ok (.goto 4, 3) := by decide +kernel
theorem dX5_shared_78 : decode cX5_shared 78 = .ok (.iload_n 3, 1) := by decide +kernel
theorem dX5_shared_79 : decode cX5_shared 79 = .ok (.ireturn, 1) := by decide +kernel
set_option maxRecDepth 20000 in
theorem ggX5_count_X5_in : GoodIn wsX5_count wsX5_in := goodIn_r _ [10] (by decide +kernel) (by decide +kernel)
set_option maxRecDepth 20000 in
theorem gX5_count_X5_in : GoodIn wsX5_count (va_wsS RX5 81 yX5_in wsX5_in) := goodIn_app (goodIn_of _ (by decide +kernel)) ggX5_count_X5_in
set_option maxRecDepth 20000 in
theorem ggX5_count_X5_all : GoodIn wsX5_count wsX5_all := goodIn_r _ [14, 2, 15, 74, 75, 76, 77, 78, 79, 80, 81, 82, 83, 84, 85, 86, 87, 88, 89] (by decide +kernel) (by decide +kernel)
set_option maxRecDepth 20000 in
theorem gX5_count_X5_all : GoodIn wsX5_count (wsV RX5 120 RX5 yX5_all wsX5_all) := goodIn_app (goodIn_of _ (by decide +kernel)) ggX5_count_X5_all
set_option maxRecDepth 20000 in
theorem ggX5_count_X5_containers : GoodIn wsX5_count wsX5_containers := goodIn_r _ [19, 2, 20, 21, 22, 23, 9, 24, 25, 26, 27, 28, 29, 30, 31, 32, 33, 34, 35, 36, 37, 38, 39, 40, 41, 3, 42, 74, 75, 76, 77, 78, 79, 80, 81, 82, 83, 84, 85, 86, 87, 88, 89] (by decide +kernel) (by decide +kernel)
set_option maxRecDepth 20000 in
theorem gX5_count_X5_containers : GoodIn wsX5_count (wsV RX5 148 RX5 yX5_containers wsX5_containers) := goodIn_app (goodIn_of _ (by decide +kernel)) ggX5_count_X5_containers
set_option maxRecDepth 20000 in
theorem ggX5_count_X5_fullest : GoodIn wsX5_count wsX5_fullest := goodIn_r _ [46, 2, 20, 21, 22, 23, 9, 24, 25, 26, 27, 28, 29, 30, 31, 32, 33, 34, 35, 36, 37, 38, 39, 40, 41, 3, 42, 47, 48, 49, 50, 51, 52, 53, 74, 75, 76, 77, 78, 79, 80, 81, 82, 83, 84, 85, 86, 87, 88, 89] (by decide +kernel) (by decide +kernel)
set_option maxRecDepth 20000 in
theorem gX5_count_X5_fullest : GoodIn wsX5_count (wsV RX5 151 RX5 yX5_fullest wsX5_fullest) := goodIn_app (goodIn_of _ (by decide +kernel)) ggX5_count_X5_fullest
set_option maxRecDepth 20000 in
theorem ggX5_count_X5_deepest : GoodIn wsX5_count wsX5_deepest := goodIn_r _ [57, 2, 20, 58, 59, 60, 9, 61, 25, 26, 27, 28, 29, 30, 31, 32, 33, 34, 35, 36, 37, 38, 39, 40, 41, 3, 42, 74, 75, 76, 77, 78, 79, 80, 81, 82, 83, 84, 85, 86, 87, 88, 89] (by decide +kernel) (by decide +kernel)
set_option maxRecDepth 20000 in
theorem gX5_count_X5_deepest : GoodIn wsX5_count (wsV RX5 154 RX5 yX5_deepest wsX5_deepest) := goodIn_app (goodIn_of _ (by decide +kernel)) ggX5_count_X5_deepest
set_option maxRecDepth 20000 in
theorem ggX5_count_X5_letters : GoodIn wsX5_count wsX5_letters := goodIn_r _ [65, 2, 20, 21, 22, 23, 9, 24, 25, 26, 27, 28, 29, 30, 31, 32, 33, 34, 35, 36, 37, 38, 39, 40, 41, 3, 42, 74, 75, 76, 77, 78, 79, 80, 81, 82, 83, 84, 85, 86, 87, 88, 89] (by decide +kernel) (by decide +kernel)
set_option maxRecDepth 20000 in
theorem gX5_count_X5_letters : GoodIn wsX5_count (wsV RX5 157 RX5 yX5_letters wsX5_letters) := goodIn_app (goodIn_of _ (by decide +kernel)) ggX5_count_X5_letters
set_option maxRecDepth 20000 in
theorem ggX5_count_X5_shared : GoodIn wsX5_count wsX5_shared := goodIn_r _ [69, 2, 70, 71, 72, 9, 73, 20, 28, 29, 30, 31, 32, 33, 34, 74, 75, 76, 77, 78, 79, 80, 81, 82, 83, 84, 85, 86, 87, 88, 89] (by decide +kernel) (by decide +kernel)
set_option maxRecDepth 20000 in
theorem gX5_count_X5_shared : GoodIn wsX5_count (wsV RX5 160 RX5 yX5_shared wsX5_shared) := goodIn_app (goodIn_of _ (by decide +kernel)) ggX5_count_X5_shared
theorem dX5_count_0 : decode cX5_count 0 = .ok (.aload_n 0, 1) := by decide +kernel
theorem dX5_count_1 : decode cX5_count 1 = .ok (.iconst 0, 1) := by decide +kernel
theorem dX5_count_2 : decode cX5_count 2 = .ok (.putfield 43, 3) := by decide +kernel
theorem dX5_count_5 : decode cX5_count 5 = .ok (.iload_n 1, 1) := by decide +kernel
theorem dX5_count_6 : decode cX5_count 6 = .ok (.iconst 0, 1) := by decide +kernel
theorem dX5_count_7 : decode cX5_count 7 = .ok (.bipush 11, 2) := by decide +kernel
theorem dX5_count_9 : decode cX5_count 9 = .ok (.invokestatic 81, 3) := by decide +kernel
theorem dX5_count_12 : decode cX5_count 12 = .ok (.ifCond .ne 5, 3) := by decide +kernel
theorem dX5_count_15 : decode cX5_count 15 = .ok (.iconst (-1), 1) := by decide +kernel
theorem dX5_count_16 : decode cX5_count 16 = .ok (.ireturn, 1) := by decide +kernel
theorem dX5_count_17 : decode cX5_count 17 = .ok (.iload_n 1, 1) := by decide +kernel
theorem dX5_count_18 : decode cX5_count 18 = .ok (.iconst 4, 1) := by decide +kernel
theorem dX5_count_19 : decode cX5_count 19 = .ok (.if_icmp .ge 43, 3) := by decide +kernel
theorem dX5_count_22 : decode cX5_count 22 = .ok (.iload_n 1, 1) := by decide +kernel
theorem dX5_count_23 : decode cX5_count 23 = .ok (.ifCond .ne 10, 3) := by decide +kernel
theorem dX5_count_26 : decode cX5_count 26 = .ok (.aload_n 0, 1) := by decide +kernel
theorem dX5_count_27 : decode cX5_count 27 = .ok (.getfield 67, 3) := by decide +kernel
theorem dX5_count_30 : decode cX5_count 30 = .ok (.goto 31, 3) := by decide +kernel
theorem dX5_count_33 : decode cX5_count 33 = .ok (.iload_n 1, 1) := by decide +kernel
theorem dX5_count_34 : decode cX5_count 34 = .ok (.iconst 1, 1) := by decide +kernel
theorem dX5_count_35 : decode cX5_count 35 = .ok (.if_icmp .ne 10, 3) := by decide +kernel
theorem dX5_count_38 : decode cX5_count 38 = .ok (.aload_n 0, 1) := by decide +kernel
theorem dX5_count_39 : decode cX5_count 39 = .ok (.invokevirtual 120, 3) := by decide +kernel
theorem dX5_count_42 : decode cX5_count 42 = .ok (.goto 19, 3) := by decide +kernel
theorem dX5_count_45 : decode cX5_count 45 = .ok (.iload_n 1, 1) := by decide +kernel
theorem dX5_count_46 : decode cX5_count 46 = .ok (.iconst 2, 1) := by decide +kernel
theorem dX5_count_47 : decode cX5_count 47 = .ok (.if_icmp .ne 10, 3) := by decide +kernel
theorem dX5_count_50 : decode cX5_count 50 = .ok (.aload_n 0, 1) := by decide +kernel
theorem dX5_count_51 : decode cX5_count 51 = .ok (.getfield 74, 3) := by decide +kernel
theorem dX5_count_54 : decode cX5_count 54 = .ok (.goto 7, 3) := by decide +kernel
theorem dX5_count_57 : decode cX5_count 57 = .ok (.aload_n 0, 1) := by decide +kernel
theorem dX5_count_58 : decode cX5_count 58 = .ok (.invokevirtual 148, 3) := by decide +kernel
theorem dX5_count_61 : decode cX5_count 61 = .ok (.ireturn, 1) := by decide +kernel
theorem dX5_count_62 : decode cX5_count 62 = .ok (.iload_n 1, 1) := by decide +kernel
theorem dX5_count_63 : decode cX5_count 63 = .ok (.bipush 7, 2) := by decide +kernel
theorem dX5_count_65 : decode cX5_count 65 = .ok (.if_icmp .ge 32, 3) := by decide +kernel
theorem dX5_count_68 : decode cX5_count 68 = .ok (.iload_n 1, 1) := by decide +kernel
theorem dX5_count_69 : decode cX5_count 69 = .ok (.iconst 4, 1) := by decide +kernel
theorem dX5_count_70 : decode cX5_count 70 = .ok (.if_icmp .ne 10, 3) := by decide +kernel
theorem dX5_count_73 : decode cX5_count 73 = .ok (.aload_n 0, 1) := by decide +kernel
theorem dX5_count_74 : decode cX5_count 74 = .ok (.invokevirtual 151, 3) := by decide +kernel
theorem dX5_count_77 : decode cX5_count 77 = .ok (.goto 19, 3) := by decide +kernel
theorem dX5_count_80 : decode cX5_count 80 = .ok (.iload_n 1, 1) := by decide +kernel
theorem dX5_count_81 : decode cX5_count 81 = .ok (.iconst 5, 1) := by decide +kernel
theorem dX5_count_82 : decode cX5_count 82 = .ok (.if_icmp .ne 10, 3) := by decide +kernel
theorem dX5_count_85 : decode cX5_count 85 = .ok (.aload_n 0, 1) := by decide +kernel
theorem dX5_count_86 : decode cX5_count 86 = .ok (.invokevirtual 154, 3) := by decide +kernel
theorem dX5_count_89 : decode cX5_count 89 = .ok (.goto 7, 3) := by decide +kernel
theorem dX5_count_92 : decode cX5_count 92 = .ok (.aload_n 0, 1) := by decide +kernel
theorem dX5_count_93 : decode cX5_count 93 = .ok (.invokevirtual 157, 3) := by decide +kernel
theorem dX5_count_96 : decode cX5_count 96 = .ok (.ireturn, 1) := by decide +kernel
theorem dX5_count_97 : decode cX5_count 97 = .ok (.iload_n 1, 1) := by decide +kernel
theorem dX5_count_98 : decode cX5_count 98 = .ok (.bipush 9, 2) := by decide +kernel
theorem dX5_count_100 : decode cX5_count 100 = .ok (.if_icmp .ge 19, 3) := by decide +kernel
theorem dX5_count_103 : decode cX5_count 103 = .ok (.aload_n 0, 1) := by decide +kernel
theorem dX5_count_104 : decode cX5_count 104 = .ok (.iload_n 1, 1) := by decide +kernel
theorem dX5_count_105 : decode cX5_count 105 = .ok (.bipush 7, 2) := by decide +kernel
theorem dX5_count_107 : decode cX5_count 107 = .ok (.if_icmp .ne 7, 3) := by decide +kernel
theorem dX5_count_110 : decode cX5_count 110 = .ok (.iconst 1, 1) := by decide +kernel
theorem dX5_count_111 : decode cX5_count 111 = .ok (.goto 4, 3) := by decide +kernel
theorem dX5_count_114 : decode cX5_count 114 = .ok (.iconst 0, 1) := by decide +kernel
theorem dX5_count_115 : decode cX5_count 115 = .ok (.invokevirtual 160, 3) := by decide +kernel
theorem dX5_count_118 : decode cX5_count 118 = .ok (.ireturn, 1) := by decide +kernel
theorem dX5_count_119 : decode cX5_count 119 = .ok (.iload_n 1, 1) := by decide +kernel
theorem dX5_count_120 : decode cX5_count 120 = .ok (.bipush 9, 2) := by decide +kernel
theorem dX5_count_122 : decode cX5_count 122 = .ok (.if_icmp .ne 10, 3) := by decide +kernel
theorem dX5_count_125 : decode cX5_count 125 = .ok (.aload_n 0, 1) := by decide +kernel
theorem dX5_count_126 : decode cX5_count 126 = .ok (.getfield 13, 3) := by decide +kernel
theorem dX5_count_129 : decode cX5_count 129 = .ok (.goto 20, 3) := by decide +kernel
theorem dX5_count_132 : decode cX5_count 132 = .ok (.iload_n 1, 1) := by decide +kernel
theorem dX5_count_133 : decode cX5_count 133 = .ok (.bipush 10, 2) := by decide +kernel
theorem dX5_count_135 : decode cX5_count 135 = .ok (.if_icmp .ne 10, 3) := by decide +kernel
theorem dX5_count_138 : decode cX5_count 138 = .ok (.aload_n 0, 1) := by decide +kernel
theorem dX5_count_139 : decode cX5_count 139 = .ok (.getfield 56, 3) := by decide +kernel
theorem dX5_count_142 : decode cX5_count 142 = .ok (.goto 7, 3) := by decide +kernel
theorem dX5_count_145 : decode cX5_count 145 = .ok (.aload_n 0, 1) := by decide +kernel
theorem dX5_count_146 : decode cX5_count 146 = .ok (.getfield 85, 3) := by decide +kernel
theorem dX5_count_149 : decode cX5_count 149 = .ok (.ireturn, 1) := by decide +kernel
set_option maxRecDepth 20000 in
theorem ggX5_digest_X5_size : GoodIn wsX5_digest wsX5_size := goodIn_r _ [11, 12, 13, 10, 14, 15, 16, 17, 18] (by decide +kernel) (by decide +kernel)
set_option maxRecDepth 20000 in
theorem gX5_digest_X5_size : GoodIn wsX5_digest (va_wsS RX5 59 yX5_size wsX5_size) := goodIn_app (goodIn_of _ (by decide +kernel)) ggX5_digest_X5_size
set_option maxRecDepth 20000 in
theorem ggX5_digest_X5_sign : GoodIn wsX5_digest wsX5_sign := goodIn_r _ [14, 15, 16, 17, 10, 18] (by decide +kernel) (by decide +kernel)
set_option maxRecDepth 20000 in
theorem gX5_digest_X5_sign : GoodIn wsX5_digest (va_wsS RX5 52 yX5_sign wsX5_sign) := goodIn_app (goodIn_of _ (by decide +kernel)) ggX5_digest_X5_sign
set_option maxRecDepth 20000 in
theorem ggX5_digest_X5_depthOf : GoodIn wsX5_digest wsX5_depthOf := goodIn_r _ [22, 8, 9, 10, 11, 12, 13, 14, 15, 16, 17, 18, 23, 24, 25, 26, 27, 28, 29, 30, 31, 32, 33, 34, 35, 36, 37, 38, 39, 40, 41, 42, 43, 44, 45, 46, 47] (by decide +kernel) (by decide +kernel)
set_option maxRecDepth 20000 in
theorem gX5_digest_X5_depthOf : GoodIn wsX5_digest (wsV RX5 117 RX5 yX5_depthOf wsX5_depthOf) := goodIn_app (goodIn_of _ (by decide +kernel)) ggX5_digest_X5_depthOf
theorem dX5_digest_0 : decode cX5_digest 0 = .ok (.aload_n 0, 1) := by decide +kernel
theorem dX5_digest_1 : decode cX5_digest 1 = .ok (.iconst 0, 1) := by decide +kernel
theorem dX5_digest_2 : decode cX5_digest 2 = .ok (.putfield 43, 3) := by decide +kernel
theorem dX5_digest_5 : decode cX5_digest 5 = .ok (.ldc2_w 164, 3) := by decide +kernel
theorem dX5_digest_8 : decode cX5_digest 8 = .ok (.lstore_n 1, 1) := by decide +kernel
theorem dX5_digest_9 : decode cX5_digest 9 = .ok (.iconst 0, 1) := by decide +kernel
theorem dX5_digest_10 : decode cX5_digest 10 = .ok (.istore_n 3, 1) := by decide +kernel
theorem dX5_digest_11 : decode cX5_digest 11 = .ok (.iload_n 3, 1) := by decide +kernel
theorem dX5_digest_12 : decode cX5_digest 12 = .ok (.aload_n 0, 1) := by decide +kernel
theorem dX5_digest_13 : decode cX5_digest 13 = .ok (.getfield 67, 3) := by decide +kernel
theorem dX5_digest_16 : decode cX5_digest 16 = .ok (.if_icmp .ge 89, 3) := by decide +kernel
theorem dX5_digest_19 : decode cX5_digest 19 = .ok (.iconst 0, 1) := by decide +kernel
theorem dX5_digest_20 : decode cX5_digest 20 = .ok (.istore 4, 2) := by decide +kernel
theorem dX5_digest_22 : decode cX5_digest 22 = .ok (.iload 4, 2) := by decide +kernel
theorem dX5_digest_24 : decode cX5_digest 24 = .ok (.aload_n 0, 1) := by decide +kernel
theorem dX5_digest_25 : decode cX5_digest 25 = .ok (.getfield 17, 3) := by decide +kernel
theorem dX5_digest_28 : decode cX5_digest 28 = .ok (.iload_n 3, 1) := by decide +kernel
theorem dX5_digest_29 : decode cX5_digest 29 = .ok (.laload, 1) := by decide +kernel
theorem dX5_digest_30 : decode cX5_digest 30 = .ok (.invokestatic 59, 3) := by decide +kernel
theorem dX5_digest_33 : decode cX5_digest 33 = .ok (.if_icmp .ge 34, 3) := by decide +kernel
theorem dX5_digest_36 : decode cX5_digest 36 = .ok (.ldc2_w 166, 3) := by decide +kernel
theorem dX5_digest_39 : decode cX5_digest 39 = .ok (.lload_n 1, 1) := by decide +kernel
theorem dX5_digest_40 : decode cX5_digest 40 = .ok (.lmul, 1) := by decide +kernel
theorem dX5_digest_41 : decode cX5_digest 41 = .ok (.aload_n 0, 1) := by decide +kernel
theorem dX5_digest_42 : decode cX5_digest 42 = .ok (.getfield 17, 3) := by decide +kernel
theorem dX5_digest_45 : decode cX5_digest 45 = .ok (.iload_n 3, 1) := by decide +kernel
theorem dX5_digest_46 : decode cX5_digest 46 = .ok (.laload, 1) := by decide +kernel
theorem dX5_digest_47 : decode cX5_digest 47 = .ok (.iload 4, 2) := by decide +kernel
theorem dX5_digest_49 : decode cX5_digest 49 = .ok (.invokestatic 52, 3) := by decide +kernel
theorem dX5_digest_52 : decode cX5_digest 52 = .ok (.i2l, 1) := by decide +kernel
theorem dX5_digest_53 : decode cX5_digest 53 = .ok (.ladd, 1) := by decide +kernel
theorem dX5_digest_54 : decode cX5_digest 54 = .ok (.ldc2_w 168, 3) := by decide +kernel
theorem dX5_digest_57 : decode cX5_digest 57 = .ok (.ladd, 1) := by decide +kernel
theorem dX5_digest_58 : decode cX5_digest 58 = .ok (.lconst 1, 1) := by decide +kernel
theorem dX5_digest_59 : decode cX5_digest 59 = .ok (.lsub, 1) := by decide +kernel
theorem dX5_digest_60 : decode cX5_digest 60 = .ok (.lstore_n 1, 1) := by decide +kernel
theorem dX5_digest_61 : decode cX5_digest 61 = .ok (.iinc 4 1, 3) := by decide +kernel
theorem dX5_digest_64 : decode cX5_digest 64 = .ok (.goto (-42), 3) := by decide +kernel
theorem dX5_digest_67 : decode cX5_digest 67 = .ok (.ldc2_w 166, 3) := by decide +kernel
theorem dX5_digest_70 : decode cX5_digest 70 = .ok (.lload_n 1, 1) := by decide +kernel
theorem dX5_digest_71 : decode cX5_digest 71 = .ok (.lmul, 1) := by decide +kernel
theorem dX5_digest_72 : decode cX5_digest 72 = .ok (.aload_n 0, 1) := by decide +kernel
theorem dX5_digest_73 : decode cX5_digest 73 = .ok (.getfield 21, 3) := by decide +kernel
theorem dX5_digest_76 : decode cX5_digest 76 = .ok (.iload_n 3, 1) := by decide +kernel
theorem dX5_digest_77 : decode cX5_digest 77 = .ok (.iaload, 1) := by decide +kernel
theorem dX5_digest_78 : decode cX5_digest 78 = .ok (.i2l, 1) := by decide +kernel
theorem dX5_digest_79 : decode cX5_digest 79 = .ok (.ladd, 1) := by decide +kernel
theorem dX5_digest_80 : decode cX5_digest 80 = .ok (.lstore_n 1, 1) := by decide +kernel
theorem dX5_digest_81 : decode cX5_digest 81 = .ok (.ldc2_w 166, 3) := by decide +kernel
theorem dX5_digest_84 : decode cX5_digest 84 = .ok (.lload_n 1, 1) := by decide +kernel
theorem dX5_digest_85 : decode cX5_digest 85 = .ok (.lmul, 1) := by decide +kernel
theorem dX5_digest_86 : decode cX5_digest 86 = .ok (.aload_n 0, 1) := by decide +kernel
theorem dX5_digest_87 : decode cX5_digest 87 = .ok (.aload_n 0, 1) := by decide +kernel
theorem dX5_digest_88 : decode cX5_digest 88 = .ok (.getfield 17, 3) := by decide +kernel
theorem dX5_digest_91 : decode cX5_digest 91 = .ok (.iload_n 3, 1) := by decide +kernel
theorem dX5_digest_92 : decode cX5_digest 92 = .ok (.laload, 1) := by decide +kernel
theorem dX5_digest_93 : decode cX5_digest 93 = .ok (.invokevirtual 117, 3) := by decide +kernel
theorem dX5_digest_96 : decode cX5_digest 96 = .ok (.i2l, 1) := by decide +kernel
theorem dX5_digest_97 : decode cX5_digest 97 = .ok (.ladd, 1) := by decide +kernel
theorem dX5_digest_98 : decode cX5_digest 98 = .ok (.lstore_n 1, 1) := by decide +kernel
theorem dX5_digest_99 : decode cX5_digest 99 = .ok (.iinc 3 1, 3) := by decide +kernel
theorem dX5_digest_102 : decode cX5_digest 102 = .ok (.goto (-91), 3) := by decide +kernel
theorem dX5_digest_105 : decode cX5_digest 105 = .ok (.lload_n 1, 1) := by decide +kernel
theorem dX5_digest_106 : decode cX5_digest 106 = .ok (.lreturn, 1) := by decide +kernel
end
section
/-! own rows: short forms of the kit's rows, over numbers (nI, lN) and booleans (bI) -/
def bI (b : Bool) : Int32 := if b then 1 else 0
theorem bI_eq0 {b : Bool} : bI b = 0 ↔ b = false := by cases b <;> decide
theorem inc1 (i : Nat) : nI i + Int32.ofInt 1 = nI (i + 1) := nI_1 i
/-- what a method that only reads begins with -/
def rPc (D : va_G) (tys : List (ClassId × FieldType)) (ws : va_W) (av : List Value) : Array Value → State → Prop := va_Pc av (fun U => va_P D vwCl ws U.heap ∧ va_K D vwCl tys U)
theorem rd_blind {D : va_G} {tys : List (ClassId × FieldType)} {ws : va_W} {av : List Value} : FrameBlind (rPc D tys ws av) := fun a U g mk q => ⟨q.1, q.2.1, va_K.moved (u := U) (U := U.calling g mk a) (Vm.Alike.refl U.vm) q.2.2⟩
def sPc (av : List Value) : Array Value → State → Prop := va_Pc av (fun _ => True)
theorem sd_blind {av : List Value} : FrameBlind (sPc av) := fun _ _ _ _ q => ⟨q.1, trivial⟩
abbrev tysA (cI cJ cZ : ClassId) : List (ClassId × FieldType) := [(cI, .int), (cJ, .long), (cZ, .boolean)]
def Ri (v : Int32) : Array Value → State → Outcome → State → Prop := vp_Si (fun r => r = v)
def Rl (v : Int64) : Array Value → State → Outcome → State → Prop := vp_Sl (fun r => r = v)
theorem dec1 {i : Nat} (h : 0 < i) : nI i + Int32.ofInt (-1) = nI (i - 1) := sb_m1 h
theorem nmax {a b : Nat} (ha : a < 2 ^ 31) (hb : b < 2 ^ 31) : (if nI a < nI b then nI b else nI a) = nI (max a b) := by
  by_cases h : a < b
  · rw [if_pos ((nI_ltI ha hb).mpr h), Nat.max_eq_right (Nat.le_of_lt h)]
  · rw [if_neg (fun q => h ((nI_ltI ha hb).mp q)), Nat.max_eq_left (Nat.not_lt.mp h)]
theorem nmin {a b : Nat} (ha : a < 2 ^ 31) (hb : b < 2 ^ 31) : (if nI b < nI a then nI b else nI a) = nI (min a b) := by
  by_cases h : b < a
  · rw [if_pos ((nI_ltI hb ha).mpr h), Nat.min_eq_right (Nat.le_of_lt h)]
  · rw [if_neg (fun q => h ((nI_ltI hb ha).mp q)), Nat.min_eq_left (Nat.not_lt.mp h)]
theorem lN_ne0 {n : Nat} (h0 : 0 < n) (h : n < 2 ^ 63) : ¬ lN n = 0 := fun q => absurd ((pk_lEQ (b := 0) h (by decide)).mp q) (Nat.pos_iff_ne_zero.mp h0)
theorem bI_inj {a b : Bool} : bI a = bI b ↔ a = b := by cases a <;> cases b <;> decide
section WX
variable {p : Program} {l : Launch} {e : Env} {R : Room} {s : State} {m : MethodId} {args : Array Value} {below : List Frame} {meth : Method} {c : Code} {H : Heap} {locs : List Loc} {cells slots : Nat} {Q : State → Prop} {cc : ByteArray} {pc : Nat} {ls : Array Slot} {rest : List Value}
theorem tpi {x y : Int32} (h : x = y) (k : W p l e R s m args below meth c H locs cells slots Q (F0 m pc ls (.int y :: rest))) : W p l e R s m args below meth c H locs cells slots Q (F0 m pc ls (.int x :: rest)) := h ▸ k
theorem tpl {x y : Int64} (h : x = y) (k : W p l e R s m args below meth c H locs cells slots Q (F0 m pc ls (.long y :: rest))) : W p l e R s m args below meth c H locs cells slots Q (F0 m pc ls (.long x :: rest)) := h ▸ k
theorem n_eq (hexec : p.tables.exec = Jvm.exec) (hb : c.code = cc) {a b : Nat} {off : Int} {tgt : Nat} (hdg : decode cc pc = .ok (.if_icmp .eq off, 3)) (ht : (pc : Int) + off = (tgt : Int)) (h1 : a < 2 ^ 31) (h2 : b < 2 ^ 31)
    (kt : a = b → W p l e R s m args below meth c H locs cells slots Q (F0 m tgt ls rest)) (kf : a ≠ b → W p l e R s m args below meth c H locs cells slots Q (F0 m (pc + 3) ls rest)) : W p l e R s m args below meth c H locs cells slots Q (F0 m pc ls (.int (nI b) :: .int (nI a) :: rest)) :=
  lv_icmp_eq hexec hb hdg ht (fun h => kt ((nI_eq h1 h2).mp h)) (fun h => kf (fun q => h ((nI_eq h1 h2).mpr q)))
theorem n_ne (hexec : p.tables.exec = Jvm.exec) (hb : c.code = cc) {a b : Nat} {off : Int} {tgt : Nat} (hdg : decode cc pc = .ok (.if_icmp .ne off, 3)) (ht : (pc : Int) + off = (tgt : Int)) (h1 : a < 2 ^ 31) (h2 : b < 2 ^ 31)
    (kt : a ≠ b → W p l e R s m args below meth c H locs cells slots Q (F0 m tgt ls rest)) (kf : a = b → W p l e R s m args below meth c H locs cells slots Q (F0 m (pc + 3) ls rest)) : W p l e R s m args below meth c H locs cells slots Q (F0 m pc ls (.int (nI b) :: .int (nI a) :: rest)) :=
  lv_icmp_ne hexec hb hdg ht (fun h => kt (fun q => h ((nI_eq h1 h2).mpr q))) (fun h => kf ((nI_eq h1 h2).mp h))
theorem n_lt (hexec : p.tables.exec = Jvm.exec) (hb : c.code = cc) {a b : Nat} {off : Int} {tgt : Nat} (hdg : decode cc pc = .ok (.if_icmp .lt off, 3)) (ht : (pc : Int) + off = (tgt : Int)) (h1 : a < 2 ^ 31) (h2 : b < 2 ^ 31)
    (kt : a < b → W p l e R s m args below meth c H locs cells slots Q (F0 m tgt ls rest)) (kf : b ≤ a → W p l e R s m args below meth c H locs cells slots Q (F0 m (pc + 3) ls rest)) : W p l e R s m args below meth c H locs cells slots Q (F0 m pc ls (.int (nI b) :: .int (nI a) :: rest)) :=
  lv_icmp_lt hexec hb hdg ht (fun h => kt ((nI_ltI h1 h2).mp h)) (fun h => kf (Nat.not_lt.mp fun q => h ((nI_ltI h1 h2).mpr q)))
theorem n_ge (hexec : p.tables.exec = Jvm.exec) (hb : c.code = cc) {a b : Nat} {off : Int} {tgt : Nat} (hdg : decode cc pc = .ok (.if_icmp .ge off, 3)) (ht : (pc : Int) + off = (tgt : Int)) (h1 : a < 2 ^ 31) (h2 : b < 2 ^ 31)
    (kt : b ≤ a → W p l e R s m args below meth c H locs cells slots Q (F0 m tgt ls rest)) (kf : a < b → W p l e R s m args below meth c H locs cells slots Q (F0 m (pc + 3) ls rest)) : W p l e R s m args below meth c H locs cells slots Q (F0 m pc ls (.int (nI b) :: .int (nI a) :: rest)) :=
  lv_icmp_ge hexec hb hdg ht (fun h => kt ((nI_leI h2 h1).mp h)) (fun h => kf (Nat.not_le.mp fun q => h ((nI_leI h2 h1).mpr q)))
theorem n_gt (hexec : p.tables.exec = Jvm.exec) (hb : c.code = cc) {a b : Nat} {off : Int} {tgt : Nat} (hdg : decode cc pc = .ok (.if_icmp .gt off, 3)) (ht : (pc : Int) + off = (tgt : Int)) (h1 : a < 2 ^ 31) (h2 : b < 2 ^ 31)
    (kt : b < a → W p l e R s m args below meth c H locs cells slots Q (F0 m tgt ls rest)) (kf : a ≤ b → W p l e R s m args below meth c H locs cells slots Q (F0 m (pc + 3) ls rest)) : W p l e R s m args below meth c H locs cells slots Q (F0 m pc ls (.int (nI b) :: .int (nI a) :: rest)) :=
  lv_icmp_gt hexec hb hdg ht (fun h => kt ((nI_ltI h2 h1).mp h)) (fun h => kf (Nat.not_lt.mp fun q => h ((nI_ltI h2 h1).mpr q)))
theorem n_le (hexec : p.tables.exec = Jvm.exec) (hb : c.code = cc) {a b : Nat} {off : Int} {tgt : Nat} (hdg : decode cc pc = .ok (.if_icmp .le off, 3)) (ht : (pc : Int) + off = (tgt : Int)) (h1 : a < 2 ^ 31) (h2 : b < 2 ^ 31)
    (kt : a ≤ b → W p l e R s m args below meth c H locs cells slots Q (F0 m tgt ls rest)) (kf : b < a → W p l e R s m args below meth c H locs cells slots Q (F0 m (pc + 3) ls rest)) : W p l e R s m args below meth c H locs cells slots Q (F0 m pc ls (.int (nI b) :: .int (nI a) :: rest)) :=
  lv_icmp_le hexec hb hdg ht (fun h => kt ((nI_leI h1 h2).mp h)) (fun h => kf (Nat.not_le.mp fun q => h ((nI_leI h1 h2).mpr q)))
theorem z_eq (hexec : p.tables.exec = Jvm.exec) (hb : c.code = cc) {a : Nat} {off : Int} {tgt : Nat} (hdg : decode cc pc = .ok (.ifCond .eq off, 3)) (ht : (pc : Int) + off = (tgt : Int)) (h1 : a < 2 ^ 31)
    (kt : a = 0 → W p l e R s m args below meth c H locs cells slots Q (F0 m tgt ls rest)) (kf : 0 < a → W p l e R s m args below meth c H locs cells slots Q (F0 m (pc + 3) ls rest)) : W p l e R s m args below meth c H locs cells slots Q (F0 m pc ls (.int (nI a) :: rest)) :=
  lv_if_eq hexec hb hdg ht (fun h => kt ((nI_eq (b := 0) h1 (by decide)).mp h)) (fun h => kf (Nat.pos_of_ne_zero fun q => h (by rw [q]; rfl)))
theorem z_ne (hexec : p.tables.exec = Jvm.exec) (hb : c.code = cc) {a : Nat} {off : Int} {tgt : Nat} (hdg : decode cc pc = .ok (.ifCond .ne off, 3)) (ht : (pc : Int) + off = (tgt : Int)) (h1 : a < 2 ^ 31)
    (kt : 0 < a → W p l e R s m args below meth c H locs cells slots Q (F0 m tgt ls rest)) (kf : a = 0 → W p l e R s m args below meth c H locs cells slots Q (F0 m (pc + 3) ls rest)) : W p l e R s m args below meth c H locs cells slots Q (F0 m pc ls (.int (nI a) :: rest)) :=
  lv_if_ne hexec hb hdg ht (fun h => kt (Nat.pos_of_ne_zero fun q => h (by rw [q]; rfl))) (fun h => kf ((nI_eq (b := 0) h1 (by decide)).mp h))
theorem z_gt (hexec : p.tables.exec = Jvm.exec) (hb : c.code = cc) {a : Nat} {off : Int} {tgt : Nat} (hdg : decode cc pc = .ok (.ifCond .gt off, 3)) (ht : (pc : Int) + off = (tgt : Int)) (h1 : a < 2 ^ 31)
    (kt : 0 < a → W p l e R s m args below meth c H locs cells slots Q (F0 m tgt ls rest)) (kf : a = 0 → W p l e R s m args below meth c H locs cells slots Q (F0 m (pc + 3) ls rest)) : W p l e R s m args below meth c H locs cells slots Q (F0 m pc ls (.int (nI a) :: rest)) :=
  lv_if_gt hexec hb hdg ht (fun h => kt ((nI_ltI (a := 0) (by decide) h1).mp h)) (fun h => kf (Nat.eq_zero_of_not_pos fun q => h ((nI_ltI (a := 0) (by decide) h1).mpr q)))
theorem z_le (hexec : p.tables.exec = Jvm.exec) (hb : c.code = cc) {a : Nat} {off : Int} {tgt : Nat} (hdg : decode cc pc = .ok (.ifCond .le off, 3)) (ht : (pc : Int) + off = (tgt : Int)) (h1 : a < 2 ^ 31)
    (kt : a = 0 → W p l e R s m args below meth c H locs cells slots Q (F0 m tgt ls rest)) (kf : 0 < a → W p l e R s m args below meth c H locs cells slots Q (F0 m (pc + 3) ls rest)) : W p l e R s m args below meth c H locs cells slots Q (F0 m pc ls (.int (nI a) :: rest)) :=
  lv_if_le hexec hb hdg ht (fun h => kt (Nat.le_zero.mp ((nI_leI (b := 0) h1 (by decide)).mp h))) (fun h => kf (Nat.pos_of_ne_zero fun q => h (by rw [q]; decide)))
/-- a number isn't less than 0 -/
theorem z_lt (hexec : p.tables.exec = Jvm.exec) (hb : c.code = cc) {a : Nat} {off : Int} {tgt : Nat} (hdg : decode cc pc = .ok (.ifCond .lt off, 3)) (ht : (pc : Int) + off = (tgt : Int)) (h1 : a < 2 ^ 31)
    (kf : W p l e R s m args below meth c H locs cells slots Q (F0 m (pc + 3) ls rest)) : W p l e R s m args below meth c H locs cells slots Q (F0 m pc ls (.int (nI a) :: rest)) :=
  lv_if_lt hexec hb hdg ht (fun h => absurd h (nI_pos h1)) (fun _ => kf)
theorem z_ge (hexec : p.tables.exec = Jvm.exec) (hb : c.code = cc) {a : Nat} {off : Int} {tgt : Nat} (hdg : decode cc pc = .ok (.ifCond .ge off, 3)) (ht : (pc : Int) + off = (tgt : Int)) (h1 : a < 2 ^ 31)
    (kt : W p l e R s m args below meth c H locs cells slots Q (F0 m tgt ls rest)) : W p l e R s m args below meth c H locs cells slots Q (F0 m pc ls (.int (nI a) :: rest)) :=
  lv_if_ge hexec hb hdg ht (fun _ => kt) (fun h => absurd (nI_pos' h1) h)
theorem b_eq (hexec : p.tables.exec = Jvm.exec) (hb : c.code = cc) {b : Bool} {off : Int} {tgt : Nat} (hdg : decode cc pc = .ok (.ifCond .eq off, 3)) (ht : (pc : Int) + off = (tgt : Int))
    (kt : b = false → W p l e R s m args below meth c H locs cells slots Q (F0 m tgt ls rest)) (kf : b = true → W p l e R s m args below meth c H locs cells slots Q (F0 m (pc + 3) ls rest)) : W p l e R s m args below meth c H locs cells slots Q (F0 m pc ls (.int (bI b) :: rest)) :=
  lv_if_eq hexec hb hdg ht (fun h => kt (bI_eq0.mp h)) (fun h => kf (by cases b; exact absurd rfl h; rfl))
theorem b_ne (hexec : p.tables.exec = Jvm.exec) (hb : c.code = cc) {b : Bool} {off : Int} {tgt : Nat} (hdg : decode cc pc = .ok (.ifCond .ne off, 3)) (ht : (pc : Int) + off = (tgt : Int))
    (kt : b = true → W p l e R s m args below meth c H locs cells slots Q (F0 m tgt ls rest)) (kf : b = false → W p l e R s m args below meth c H locs cells slots Q (F0 m (pc + 3) ls rest)) : W p l e R s m args below meth c H locs cells slots Q (F0 m pc ls (.int (bI b) :: rest)) :=
  lv_if_ne hexec hb hdg ht (fun h => kt (by cases b; exact absurd rfl h; rfl)) (fun h => kf (bI_eq0.mp h))
theorem q_ge (hexec : p.tables.exec = Jvm.exec) (hb : c.code = cc) {a b : Nat} {off : Int} {tgt : Nat} (hd1 : decode cc pc = .ok (.lcmp, 1)) (hdg : decode cc (pc + 1) = .ok (.ifCond .ge off, 3)) (ht : ((pc + 1 : Nat) : Int) + off = (tgt : Int)) (h1 : a < 2 ^ 63) (h2 : b < 2 ^ 63)
    (kt : b ≤ a → W p l e R s m args below meth c H locs cells slots Q (F0 m tgt ls rest)) (kf : a < b → W p l e R s m args below meth c H locs cells slots Q (F0 m (pc + 1 + 3) ls rest)) : W p l e R s m args below meth c H locs cells slots Q (F0 m pc ls (.long (lN b) :: .long (lN a) :: rest)) :=
  W.lcmp hexec hb hd1 (lv_if_ge hexec hb hdg ht (fun h => kt ((pk_lLE h2 h1).mp ((lg_cmp_ge _ _).mp h))) (fun h => kf (Nat.not_le.mp fun q => h ((lg_cmp_ge _ _).mpr ((pk_lLE h2 h1).mpr q)))))
theorem q_gt (hexec : p.tables.exec = Jvm.exec) (hb : c.code = cc) {a b : Nat} {off : Int} {tgt : Nat} (hd1 : decode cc pc = .ok (.lcmp, 1)) (hdg : decode cc (pc + 1) = .ok (.ifCond .gt off, 3)) (ht : ((pc + 1 : Nat) : Int) + off = (tgt : Int)) (h1 : a < 2 ^ 63) (h2 : b < 2 ^ 63)
    (kt : b < a → W p l e R s m args below meth c H locs cells slots Q (F0 m tgt ls rest)) (kf : a ≤ b → W p l e R s m args below meth c H locs cells slots Q (F0 m (pc + 1 + 3) ls rest)) : W p l e R s m args below meth c H locs cells slots Q (F0 m pc ls (.long (lN b) :: .long (lN a) :: rest)) :=
  W.lcmp hexec hb hd1 (lv_if_gt hexec hb hdg ht (fun h => kt ((pk_lLT h2 h1).mp ((lg_cmp_gt _ _).mp h))) (fun h => kf (Nat.not_lt.mp fun q => h ((lg_cmp_gt _ _).mpr ((pk_lLT h2 h1).mpr q)))))
theorem q_le (hexec : p.tables.exec = Jvm.exec) (hb : c.code = cc) {a b : Nat} {off : Int} {tgt : Nat} (hd1 : decode cc pc = .ok (.lcmp, 1)) (hdg : decode cc (pc + 1) = .ok (.ifCond .le off, 3)) (ht : ((pc + 1 : Nat) : Int) + off = (tgt : Int)) (h1 : a < 2 ^ 63) (h2 : b < 2 ^ 63)
    (kt : a ≤ b → W p l e R s m args below meth c H locs cells slots Q (F0 m tgt ls rest)) (kf : b < a → W p l e R s m args below meth c H locs cells slots Q (F0 m (pc + 1 + 3) ls rest)) : W p l e R s m args below meth c H locs cells slots Q (F0 m pc ls (.long (lN b) :: .long (lN a) :: rest)) :=
  W.lcmp hexec hb hd1 (lv_if_le hexec hb hdg ht (fun h => kt ((pk_lLE h1 h2).mp ((lg_cmp_le _ _).mp h))) (fun h => kf (Nat.not_le.mp fun q => h ((lg_cmp_le _ _).mpr ((pk_lLE h1 h2).mpr q)))))
theorem q_lt (hexec : p.tables.exec = Jvm.exec) (hb : c.code = cc) {a b : Nat} {off : Int} {tgt : Nat} (hd1 : decode cc pc = .ok (.lcmp, 1)) (hdg : decode cc (pc + 1) = .ok (.ifCond .lt off, 3)) (ht : ((pc + 1 : Nat) : Int) + off = (tgt : Int)) (h1 : a < 2 ^ 63) (h2 : b < 2 ^ 63)
    (kt : a < b → W p l e R s m args below meth c H locs cells slots Q (F0 m tgt ls rest)) (kf : b ≤ a → W p l e R s m args below meth c H locs cells slots Q (F0 m (pc + 1 + 3) ls rest)) : W p l e R s m args below meth c H locs cells slots Q (F0 m pc ls (.long (lN b) :: .long (lN a) :: rest)) :=
  W.lcmp hexec hb hd1 (lv_if_lt hexec hb hdg ht (fun h => kt ((pk_lLT h1 h2).mp ((lg_cmp_lt _ _).mp h))) (fun h => kf (Nat.not_lt.mp fun q => h ((lg_cmp_lt _ _).mpr ((pk_lLT h1 h2).mpr q)))))
theorem q_eq (hexec : p.tables.exec = Jvm.exec) (hb : c.code = cc) {a b : Nat} {off : Int} {tgt : Nat} (hd1 : decode cc pc = .ok (.lcmp, 1)) (hdg : decode cc (pc + 1) = .ok (.ifCond .eq off, 3)) (ht : ((pc + 1 : Nat) : Int) + off = (tgt : Int)) (h1 : a < 2 ^ 63) (h2 : b < 2 ^ 63)
    (kt : a = b → W p l e R s m args below meth c H locs cells slots Q (F0 m tgt ls rest)) (kf : a ≠ b → W p l e R s m args below meth c H locs cells slots Q (F0 m (pc + 1 + 3) ls rest)) : W p l e R s m args below meth c H locs cells slots Q (F0 m pc ls (.long (lN b) :: .long (lN a) :: rest)) :=
  W.lcmp hexec hb hd1 (lv_if_eq hexec hb hdg ht (fun h => kt ((pk_lEQ h1 h2).mp ((lg_cmp_eq _ _).mp h))) (fun h => kf (fun q => h ((lg_cmp_eq _ _).mpr ((pk_lEQ h1 h2).mpr q)))))
theorem q_ne (hexec : p.tables.exec = Jvm.exec) (hb : c.code = cc) {a b : Nat} {off : Int} {tgt : Nat} (hd1 : decode cc pc = .ok (.lcmp, 1)) (hdg : decode cc (pc + 1) = .ok (.ifCond .ne off, 3)) (ht : ((pc + 1 : Nat) : Int) + off = (tgt : Int)) (h1 : a < 2 ^ 63) (h2 : b < 2 ^ 63)
    (kt : a ≠ b → W p l e R s m args below meth c H locs cells slots Q (F0 m tgt ls rest)) (kf : a = b → W p l e R s m args below meth c H locs cells slots Q (F0 m (pc + 1 + 3) ls rest)) : W p l e R s m args below meth c H locs cells slots Q (F0 m pc ls (.long (lN b) :: .long (lN a) :: rest)) :=
  W.lcmp hexec hb hd1 (lv_if_ne hexec hb hdg ht (fun h => kt (fun q => h ((lg_cmp_eq _ _).mpr ((pk_lEQ h1 h2).mpr q)))) (fun h => kf ((pk_lEQ h1 h2).mp ((lg_cmp_eq _ _).mp h))))
variable {nL n index maxL : Nat} {Ts wsC : List Cond} {own C : String} {y : MethodName} {bytes : ByteArray} {ret : Option FieldType} {rm : Room} {D : va_G} {tys : List (ClassId × FieldType)} {ws : va_W} {b : Nat} {As st0 : List Value} {ci q0 N : Nat} {T : u_T} {fs : List Value}
theorem c_Vi (S : CallFix p m c cc nL s args Ts own) {v : Int32} (hM : Met l y wsC rm (rPc D tys ws (.ref b :: As)) (Ri v) 0 0 (fun _ => False)) (cw : CallW R s args own C index y bytes maxL ret wsC rm 0 0 n) (hK : va_K D vwCl tys s) (hP : va_P D vwCl ws H)
    (hc : vwCl[ci]? = some (C, T, N)) (he : ws[q0]? = some (b, .inr (ci, fs))) (hn : As.length = n) (hsize : ls.size = nL) (hst : st0 = As.reverse ++ .ref b :: rest) (hW : (rest.map fun v => v.category).sum ≤ 8) (hdg : decode cc pc = .ok (.invokevirtual index, 3)) (hf : cells ≤ R.cells ∧ slots ≤ R.slots)
    (kk : W p l e R s m args below meth c H locs cells slots Q (F0 m (pc + 3) ls (.int v :: rest))) : W p l e R s m args below meth c H locs cells slots Q (F0 m pc ls st0) :=
  vp_callSi (W.runV (As := As) (rest := rest) S hM cw ⟨rd_blind, va_recv hK hP hc he, fun U hU hW => ⟨rfl, by rw [hU]; exact hP, va_K.moved hW.alike hK⟩⟩ rfl hn hsize hst (lv_room hW) hdg hf) (fun r hr => by subst hr; exact kk)
theorem c_Vl (S : CallFix p m c cc nL s args Ts own) {v : Int64} (hM : Met l y wsC rm (rPc D tys ws (.ref b :: As)) (Rl v) 0 0 (fun _ => False)) (cw : CallW R s args own C index y bytes maxL ret wsC rm 0 0 n) (hK : va_K D vwCl tys s) (hP : va_P D vwCl ws H)
    (hc : vwCl[ci]? = some (C, T, N)) (he : ws[q0]? = some (b, .inr (ci, fs))) (hn : As.length = n) (hsize : ls.size = nL) (hst : st0 = As.reverse ++ .ref b :: rest) (hW : (rest.map fun v => v.category).sum ≤ 8) (hdg : decode cc pc = .ok (.invokevirtual index, 3)) (hf : cells ≤ R.cells ∧ slots ≤ R.slots)
    (kk : W p l e R s m args below meth c H locs cells slots Q (F0 m (pc + 3) ls (.long v :: rest))) : W p l e R s m args below meth c H locs cells slots Q (F0 m pc ls st0) :=
  vp_callSl (W.runV (As := As) (rest := rest) S hM cw ⟨rd_blind, va_recv hK hP hc he, fun U hU hW => ⟨rfl, by rw [hU]; exact hP, va_K.moved hW.alike hK⟩⟩ rfl hn hsize hst (lv_room hW) hdg hf) (fun r hr => by subst hr; exact kk)
theorem c_Si (S : CallFix p m c cc nL s args Ts own) {v : Int32} (hM : Met l y wsC rm (sPc As) (Ri v) 0 0 (fun _ => False)) (cw : CallB R s args own index y bytes maxL ret wsC rm 0 0 n ∧ (Cond.static y).before args s = true)
    (hn : As.length = n) (hsize : ls.size = nL) (hst : st0 = As.reverse ++ rest) (hW : (rest.map fun v => v.category).sum ≤ 8) (hdg : decode cc pc = .ok (.invokestatic index, 3)) (hf : cells ≤ R.cells ∧ slots ≤ R.slots)
    (kk : W p l e R s m args below meth c H locs cells slots Q (F0 m (pc + 3) ls (.int v :: rest))) : W p l e R s m args below meth c H locs cells slots Q (F0 m pc ls st0) :=
  vp_callSi (W.runS (As := As) (rest := rest) S hM cw ⟨sd_blind, fun _ _ _ => ⟨rfl, trivial⟩⟩ rfl hn hsize hst (lv_room hW) hdg hf) (fun r hr => by subst hr; exact kk)
theorem c_Sl (S : CallFix p m c cc nL s args Ts own) {v : Int64} (hM : Met l y wsC rm (sPc As) (Rl v) 0 0 (fun _ => False)) (cw : CallB R s args own index y bytes maxL ret wsC rm 0 0 n ∧ (Cond.static y).before args s = true)
    (hn : As.length = n) (hsize : ls.size = nL) (hst : st0 = As.reverse ++ rest) (hW : (rest.map fun v => v.category).sum ≤ 8) (hdg : decode cc pc = .ok (.invokestatic index, 3)) (hf : cells ≤ R.cells ∧ slots ≤ R.slots)
    (kk : W p l e R s m args below meth c H locs cells slots Q (F0 m (pc + 3) ls (.long v :: rest))) : W p l e R s m args below meth c H locs cells slots Q (F0 m pc ls st0) :=
  vp_callSl (W.runS (As := As) (rest := rest) S hM cw ⟨sd_blind, fun _ _ _ => ⟨rfl, trivial⟩⟩ rfl hn hsize hst (lv_room hW) hdg hf) (fun r hr => by subst hr; exact kk)
variable {cl : List vw_C} {a : Nat}
theorem g_i (hexec : p.tables.exec = Jvm.exec) (hb : c.code = cc) (hK : va_K D cl tys s) (hP : va_P D cl ws H) (q0 t0 : Nat) {cA : ClassId} {n : Nat} {f : Nat → Int32} (ha : ws[q0]? = some (a, .inl (cA, n, .inl f))) (ht : tys[t0]? = some (cA, .int)) {k : Nat} (hin : k < n) (hn : n < 2 ^ 31) (hdg : decode cc pc = .ok (.iaload, 1)) {v : Int32} (hv : f k = v)
    (kk : W p l e R s m args below meth c H locs cells slots Q (F0 m (pc + 1) ls (.int v :: rest))) : W p l e R s m args below meth c H locs cells slots Q (F0 m pc ls (.int (nI k) :: .ref a :: rest)) :=
  va_iald hexec hb hK hP q0 t0 ha ht (vp_in_nI hin hn) hdg (by rw [nI_clamp (Nat.lt_trans hin hn), hv]; exact kk)
theorem g_z (hexec : p.tables.exec = Jvm.exec) (hb : c.code = cc) (hK : va_K D cl tys s) (hP : va_P D cl ws H) (q0 t0 : Nat) {cA : ClassId} {n : Nat} {f : Nat → Int32} (ha : ws[q0]? = some (a, .inl (cA, n, .inl f))) (ht : tys[t0]? = some (cA, .boolean)) {k : Nat} (hin : k < n) (hn : n < 2 ^ 31) (hdg : decode cc pc = .ok (.baload, 1)) {v : Int32} (hv : f k = v)
    (kk : W p l e R s m args below meth c H locs cells slots Q (F0 m (pc + 1) ls (.int v :: rest))) : W p l e R s m args below meth c H locs cells slots Q (F0 m pc ls (.int (nI k) :: .ref a :: rest)) :=
  va_zald hexec hb hK hP q0 t0 ha ht (vp_in_nI hin hn) hdg (by rw [nI_clamp (Nat.lt_trans hin hn), hv]; exact kk)
theorem g_l (hexec : p.tables.exec = Jvm.exec) (hb : c.code = cc) (hK : va_K D cl tys s) (hP : va_P D cl ws H) (q0 t0 : Nat) {cA : ClassId} {n : Nat} {f : Nat → Int64} (ha : ws[q0]? = some (a, .inl (cA, n, .inr (.inl f)))) (ht : tys[t0]? = some (cA, .long)) {k : Nat} (hin : k < n) (hn : n < 2 ^ 31) (hdg : decode cc pc = .ok (.laload, 1)) {v : Int64} (hv : f k = v)
    (kk : W p l e R s m args below meth c H locs cells slots Q (F0 m (pc + 1) ls (.long v :: rest))) : W p l e R s m args below meth c H locs cells slots Q (F0 m pc ls (.int (nI k) :: .ref a :: rest)) :=
  va_lald hexec hb hK hP q0 t0 ha ht (vp_in_nI hin hn) hdg (by rw [nI_clamp (Nat.lt_trans hin hn), hv]; exact kk)
/-- the ends of a method that only reads -/
theorem r_i {v v' : Int32} (hexec : p.tables.exec = Jvm.exec) (hb : c.code = cc) (hr : meth.sig.returnType = some .int) (hlocks : meth.locks = false) (h : v' = v) (hdg : decode cc pc = .ok (.ireturn, 1)) : W p l e R s m args below meth c s.heap [] cells slots (MQ below (Ri v) args s cells slots (fun _ => False)) (F0 m pc ls [.int v']) :=
  W.iret hexec hb hr (fun t ht _ => ⟨v', rfl, h, ht⟩) (fun _ h => by cases h) hdg hlocks
theorem r_l {v v' : Int64} (hexec : p.tables.exec = Jvm.exec) (hb : c.code = cc) (hr : meth.sig.returnType = some .long) (hlocks : meth.locks = false) (h : v' = v) (hdg : decode cc pc = .ok (.lreturn, 1)) : W p l e R s m args below meth c s.heap [] cells slots (MQ below (Rl v) args s cells slots (fun _ => False)) (F0 m pc ls [.long v']) :=
  W.lret hexec hb hr (fun t ht _ => ⟨v', rfl, h, ht⟩) (fun _ h => by cases h) hdg hlocks
theorem r_z {x X : Bool} {v : Int32} (hexec : p.tables.exec = Jvm.exec) (hb : c.code = cc) (hr : meth.sig.returnType = some .boolean) (hlocks : meth.locks = false) (hv : v = bI x) (h : x = X) (hdg : decode cc pc = .ok (.ireturn, 1)) : W p l e R s m args below meth c s.heap [] cells slots (MQ below (Ri (bI X)) args s cells slots (fun _ => False)) (F0 m pc ls [.int v]) := by
  subst hv
  subst h
  exact W.zret hexec hb hr (by cases x <;> rfl) (fun t ht _ => ⟨_, rfl, rfl, ht⟩) (fun _ h => by cases h) hdg hlocks
theorem bb_eq (hexec : p.tables.exec = Jvm.exec) (hb : c.code = cc) {a b : Bool} {off : Int} {tgt : Nat} (hdg : decode cc pc = .ok (.if_icmp .eq off, 3)) (ht : (pc : Int) + off = (tgt : Int))
    (kt : a = b → W p l e R s m args below meth c H locs cells slots Q (F0 m tgt ls rest)) (kf : ¬ a = b → W p l e R s m args below meth c H locs cells slots Q (F0 m (pc + 3) ls rest)) : W p l e R s m args below meth c H locs cells slots Q (F0 m pc ls (.int (bI b) :: .int (bI a) :: rest)) :=
  lv_icmp_eq hexec hb hdg ht (fun h => kt (bI_inj.mp h)) (fun h => kf (fun q => h (bI_inj.mpr q)))
theorem bb_ne (hexec : p.tables.exec = Jvm.exec) (hb : c.code = cc) {a b : Bool} {off : Int} {tgt : Nat} (hdg : decode cc pc = .ok (.if_icmp .ne off, 3)) (ht : (pc : Int) + off = (tgt : Int))
    (kt : ¬ a = b → W p l e R s m args below meth c H locs cells slots Q (F0 m tgt ls rest)) (kf : a = b → W p l e R s m args below meth c H locs cells slots Q (F0 m (pc + 3) ls rest)) : W p l e R s m args below meth c H locs cells slots Q (F0 m pc ls (.int (bI b) :: .int (bI a) :: rest)) :=
  lv_icmp_ne hexec hb hdg ht (fun h => kt (fun q => h (bI_inj.mpr q))) (fun h => kf (bI_inj.mp h))
end WX
/-- the entry of a method that only reads: its walk, in the form that the rows take -/
theorem met_r {l : Launch} {y : MethodName} {wsm ws' : List Cond} {rm : Room} {cc : ByteArray} {maxL : Nat} {ret : Option FieldType} {D : va_G} {tys : List (ClassId × FieldType)} {ws : va_W} {av : List Value} {Qc : Array Value → State → Outcome → State → Prop} {own : String}
    (hy : plainName y.cls = true) (ho : y.cls = own) (hw : wsm = Cond.code y cc maxL ret :: ws') (hle : (lg_sl av).length ≤ maxL)
    (body : ∀ (p : Program) (e : Env) (s : State) (m : MethodId) (below : List Frame) (meth : Method) (c : Code), CallFix p m c cc maxL s av.toArray wsm own → meth.sig.returnType = ret → meth.locks = false → va_P D vwCl ws s.heap → va_K D vwCl tys s →
      ∀ ls : Array Slot, lv_has ls maxL (lv_args 0 av) → W p l e rm s m av.toArray below meth c s.heap [] 0 0 (MQ below Qc av.toArray s 0 0 (fun _ => False)) (F0 m 0 ls [])) : Met l y wsm rm (rPc D tys ws av) Qc 0 0 (fun _ => False) := by
  refine Met.ofW (cc := cc) (maxL := maxL) (ret := ret) hy hw ?_
  intro p e s m args below meth c s₁ B hml hv
  obtain ⟨rfl, hP, hK⟩ := hv
  have hl := lv_entry av (n := maxL) hle
  rw [lg_entry_eq]
  exact body p e s m below meth c ⟨B.exec, B.bytes, hml, ho ▸ findClass_of_methodNamed B.named, atoms_spec (ws := wsm) B.pre⟩ B.returns B.notSynchronized hP hK _ hl
theorem met_s {l : Launch} {y : MethodName} {wsm ws' : List Cond} {rm : Room} {cc : ByteArray} {maxL : Nat} {ret : Option FieldType} {av : List Value} {Qc : Array Value → State → Outcome → State → Prop} {own : String}
    (hy : plainName y.cls = true) (ho : y.cls = own) (hw : wsm = Cond.code y cc maxL ret :: ws') (hle : (lg_sl av).length ≤ maxL)
    (body : ∀ (p : Program) (e : Env) (s : State) (m : MethodId) (below : List Frame) (meth : Method) (c : Code), CallFix p m c cc maxL s av.toArray wsm own → meth.sig.returnType = ret → meth.locks = false →
      ∀ ls : Array Slot, lv_has ls maxL (lv_args 0 av) → W p l e rm s m av.toArray below meth c s.heap [] 0 0 (MQ below Qc av.toArray s 0 0 (fun _ => False)) (F0 m 0 ls [])) : Met l y wsm rm (sPc av) Qc 0 0 (fun _ => False) := by
  refine Met.ofW (cc := cc) (maxL := maxL) (ret := ret) hy hw ?_
  intro p e s m args below meth c s₁ B hml hv
  obtain ⟨rfl, -⟩ := hv
  have hl := lv_entry av (n := maxL) hle
  rw [lg_entry_eq]
  exact body p e s m below meth c ⟨B.exec, B.bytes, hml, ho ▸ findClass_of_methodNamed B.named, atoms_spec (ws := wsm) B.pre⟩ B.returns B.notSynchronized _ hl
end
section
/-! ===== lN n to 2^64: shifts, and, or, masks, one bit ===== -/
theorem wb_tb (n : Nat) : (lN n).toBitVec = BitVec.ofNat 64 n := rfl
theorem wb_inj {a b : Int64} (h : a.toBitVec = b.toBitVec) : a = b := Int64.toBitVec_inj.mp h
theorem wb_tn {n : Nat} (h : n < 2 ^ 64) : (lN n).toBitVec.toNat = n := by rw [wb_tb, BitVec.toNat_ofNat, Nat.mod_eq_of_lt h]
theorem wb_of (x : Int64) : ∃ n, n < 2 ^ 64 ∧ x = lN n := ⟨x.toBitVec.toNat, x.toBitVec.isLt, wb_inj (by rw [wb_tb]; simp)⟩
theorem wb_of32 (x : Int32) : ∃ n, n < 2 ^ 32 ∧ x = nI n := ⟨x.toBitVec.toNat, x.toBitVec.isLt, Int32.toBitVec_inj.mp (by show _ = BitVec.ofNat 32 _; simp)⟩
theorem wb_c : ∀ k, k < 64 → ((nI k).toInt64 &&& 63) = lN k := by decide +kernel
theorem wb_cu : ∀ k, k < 64 → ((nI k).toInt64.toUInt64 &&& Int64.toUInt64 63) = UInt64.ofNat k := by decide +kernel
theorem wb_sm : ∀ k, k < 64 → (BitVec.ofNat 64 k).smod 64 = BitVec.ofNat 64 k := by decide +kernel
theorem wb_pw {a b : Nat} (h : a ≤ b) : 2 ^ b = 2 ^ a * 2 ^ (b - a) := by rw [← Nat.pow_add]; congr 1; omega
theorem wb_lt2 {a b : Nat} (h : a < b) : 2 ^ a < 2 ^ b := Nat.pow_lt_pow_right (by decide) h
theorem wb_mod (n : Nat) : lN n = lN (n % 2 ^ 64) := wb_inj (by rw [wb_tb, wb_tb]; apply BitVec.eq_of_toNat_eq; rw [BitVec.toNat_ofNat, BitVec.toNat_ofNat, Nat.mod_mod])
theorem wb_shr {n k : Nat} (hn : n < 2 ^ 64) (hk : k < 64) : ((lN n).toUInt64 >>> ((nI k).toInt64.toUInt64 &&& Int64.toUInt64 63)).toInt64 = lN (n / 2 ^ k) := by
  rw [wb_cu k hk]
  apply wb_inj
  apply BitVec.eq_of_toNat_eq
  show ((lN n).toUInt64 >>> UInt64.ofNat k).toNat = (BitVec.ofNat 64 _).toNat
  have h1 : (UInt64.ofNat k).toNat = k := by
    show (BitVec.ofNat 64 k).toNat = k
    rw [BitVec.toNat_ofNat, Nat.mod_eq_of_lt (by omega)]
  have h2 : (lN n).toUInt64.toNat = n := wb_tn hn
  rw [UInt64.toNat_shiftRight, h1, h2, Nat.mod_eq_of_lt hk, Nat.shiftRight_eq_div_pow, BitVec.toNat_ofNat, Nat.mod_eq_of_lt (Nat.lt_of_le_of_lt (Nat.div_le_self _ _) hn)]
theorem wb_shl (n : Nat) {k : Nat} (hk : k < 64) : lN n <<< ((nI k).toInt64 &&& 63) = lN (n * 2 ^ k) := by
  rw [wb_c k hk]
  apply wb_inj
  rw [Int64.toBitVec_shiftLeft, wb_tb, wb_tb, wb_tb, wb_sm k hk]
  apply BitVec.eq_of_toNat_eq
  rw [BitVec.shiftLeft_eq', BitVec.toNat_shiftLeft, BitVec.toNat_ofNat, BitVec.toNat_ofNat, BitVec.toNat_ofNat, Nat.mod_eq_of_lt (show k < 2 ^ 64 by omega), Nat.shiftLeft_eq, Nat.mul_mod, Nat.mod_mod, ← Nat.mul_mod]
theorem wb_and {a b : Nat} (ha : a < 2 ^ 64) (hb : b < 2 ^ 64) : lN a &&& lN b = lN (a &&& b) := by
  apply wb_inj
  rw [Int64.toBitVec_and, wb_tb, wb_tb, wb_tb]
  apply BitVec.eq_of_toNat_eq
  rw [BitVec.toNat_and, BitVec.toNat_ofNat, BitVec.toNat_ofNat, BitVec.toNat_ofNat, Nat.mod_eq_of_lt ha, Nat.mod_eq_of_lt hb, Nat.mod_eq_of_lt (Nat.and_lt_two_pow _ hb)]
theorem wb_or {a b : Nat} (ha : a < 2 ^ 64) (hb : b < 2 ^ 64) : lN a ||| lN b = lN (a ||| b) := by
  apply wb_inj
  rw [Int64.toBitVec_or, wb_tb, wb_tb, wb_tb]
  apply BitVec.eq_of_toNat_eq
  rw [BitVec.toNat_or, BitVec.toNat_ofNat, BitVec.toNat_ofNat, BitVec.toNat_ofNat, Nat.mod_eq_of_lt ha, Nat.mod_eq_of_lt hb, Nat.mod_eq_of_lt (Nat.or_lt_two_pow ha hb)]
theorem wb_mask {n k : Nat} (hn : n < 2 ^ 64) (hk : k < 64) : lN n &&& lN (2 ^ k - 1) = lN (n % 2 ^ k) := by
  rw [wb_and hn (by have := wb_lt2 hk; omega), Nat.and_two_pow_sub_one_eq_mod]
theorem wb_a1 {n : Nat} (hn : n < 2 ^ 64) : lN n &&& 1 = lN (n % 2) := wb_mask (k := 1) hn (by decide)
theorem wb_bit {n k : Nat} (hn : n < 2 ^ 64) (hk : k < 64) : ((lN n).toUInt64 >>> ((nI k).toInt64.toUInt64 &&& Int64.toUInt64 63)).toInt64 &&& 1 = lN (n / 2 ^ k % 2) := by
  rw [wb_shr hn hk, wb_a1 (Nat.lt_of_le_of_lt (Nat.div_le_self _ _) hn)]
theorem wb_xor {q k : Nat} (hk : k < 63) (h : 2 ^ k ≤ q) (h2 : q < 2 ^ (k + 1)) : lN q ^^^ lN (2 ^ k) = lN (q - 2 ^ k) := by
  obtain ⟨r, rfl⟩ : ∃ r, q = 2 ^ k + r := ⟨q - 2 ^ k, by omega⟩
  have hr : r < 2 ^ k := by rw [Nat.pow_succ] at h2; omega
  have hx : (2 ^ k + r) ^^^ 2 ^ k = r := by
    apply Nat.eq_of_testBit_eq
    intro i
    rw [Nat.testBit_xor, Nat.testBit_two_pow]
    rcases Nat.lt_trichotomy i k with h | h | h
    · rw [Nat.testBit_two_pow_add_gt h]
      simp [show ¬ k = i by omega]
    · subst h
      rw [Nat.testBit_two_pow_add_eq]
      simp
    · have a1 : 2 ^ (k + 1) ≤ 2 ^ i := Nat.pow_le_pow_right (by decide) h
      rw [Nat.testBit_lt_two_pow (show 2 ^ k + r < 2 ^ i by omega), Nat.testBit_lt_two_pow (show r < 2 ^ i by omega)]
      simp [show ¬ k = i by omega]
  have b1 := wb_lt2 (show k + 1 < 64 by omega)
  have b2 := wb_lt2 (show k < 64 by omega)
  apply wb_inj
  rw [Int64.toBitVec_xor, wb_tb, wb_tb, wb_tb]
  apply BitVec.eq_of_toNat_eq
  rw [BitVec.toNat_xor, BitVec.toNat_ofNat, BitVec.toNat_ofNat, BitVec.toNat_ofNat, Nat.mod_eq_of_lt (by omega : 2 ^ k + r < 2 ^ 64), Nat.mod_eq_of_lt b2, hx, Nat.add_sub_cancel_left, Nat.mod_eq_of_lt (by omega)]
/-! ===== small literals as numbers ===== -/
theorem fa_lit (n : Nat) : (OfNat.ofNat n : Int32) = nI n := rfl
theorem fa_litL (n : Nat) : (OfNat.ofNat n : Int64) = lN n := rfl
/-! ===== bits of a number: 'or', masks, one bit ===== -/
theorem fa_and (a b : Nat) : nI a &&& nI b = nI (a &&& b) := by
  apply Int32.toBitVec_inj.1
  show BitVec.ofNat 32 a &&& BitVec.ofNat 32 b = BitVec.ofNat 32 (a &&& b)
  apply BitVec.eq_of_getLsbD_eq
  intro i hi
  simp [hi]
theorem fa_or (a b : Nat) : nI a ||| nI b = nI (a ||| b) := by
  apply Int32.toBitVec_inj.1
  show BitVec.ofNat 32 a ||| BitVec.ofNat 32 b = BitVec.ofNat 32 (a ||| b)
  apply BitVec.eq_of_getLsbD_eq
  intro i hi
  simp [hi]
/-- a remainder by a power of two, as a mask -/
theorem fa_mask (n k : Nat) : nI n &&& nI (2 ^ k - 1) = nI (n % 2 ^ k) := by rw [fa_and, Nat.and_two_pow_sub_one_eq_mod]
/-- 'or' of a high part and a low one that don't meet is their sum -/
theorem fa_or_sum {a k : Nat} (b : Nat) (h : a < 2 ^ k) : nI (2 ^ k * b) ||| nI a = nI (2 ^ k * b + a) := by rw [fa_or, Nat.two_pow_add_eq_or_of_lt h]
/-- one bit, by 'and' with a power of two -/
theorem fa_bit {n j : Nat} (hj : j < 31) : nI n &&& nI (2 ^ j) = 0 ↔ n.testBit j = false := by
  have h2 : (2 : Nat) ^ j < 2 ^ 31 := Nat.pow_lt_pow_right (by decide) hj
  have hle : n &&& 2 ^ j ≤ 2 ^ j := Nat.and_le_right
  have e : n &&& 2 ^ j = 0 ↔ n.testBit j = false := by
    constructor
    · intro h
      have h1 : (n &&& 2 ^ j).testBit j = false := by rw [h]; simp
      rw [Nat.testBit_and] at h1
      first | simpa using h1 | simpa [Nat.testBit_two_pow_self] using h1 | simpa [Nat.testBit_two_pow] using h1
    · intro h
      apply Nat.eq_of_testBit_eq
      intro i
      rw [Nat.testBit_and]
      by_cases hi : j = i
      · subst hi; simp [h]
      · first | (simp [Nat.testBit_two_pow, hi]; done) | (simp [Nat.testBit_two_pow_of_ne hi]; done)
  rw [fa_and]
  constructor
  · intro h
    apply e.mp
    rcases Nat.eq_zero_or_pos (n &&& 2 ^ j) with z | z
    · exact z
    · exact absurd h (nI_ne0 z (Nat.lt_of_le_of_lt hle h2))
  · intro h
    rw [e.mpr h]; exact nI_0
/-- a remainder by a power of two of a number that isn't negative, as Java divides -/
theorem fa_rem {a k : Nat} (ha : a < 2 ^ 31) (hk : k < 31) : nI a - nI a / nI (2 ^ k) * nI (2 ^ k) = nI (a % 2 ^ k) := pk_rem ha (Nat.two_pow_pos k) (Nat.pow_lt_pow_right (by decide) hk)
/-! ===== how many places have a property ===== -/
def fb_ct (p : Nat → Bool) : Nat → Nat
  | 0 => 0
  | n + 1 => fb_ct p n + (if p n then 1 else 0)
theorem fb_ct_succ (p : Nat → Bool) (n : Nat) : fb_ct p (n + 1) = fb_ct p n + (if p n then 1 else 0) := rfl
theorem fb_ct_le (p : Nat → Bool) : ∀ n, fb_ct p n ≤ n
  | 0 => Nat.le_refl _
  | n + 1 => by
    have h := fb_ct_le p n
    rw [fb_ct_succ]
    split <;> omega
theorem fb_ct_step (p : Nat → Bool) (m : Nat) : ∀ n, fb_ct p m ≤ fb_ct p (m + n)
  | 0 => Nat.le_refl _
  | n + 1 => by
    have h := fb_ct_step p m n
    show fb_ct p m ≤ fb_ct p (m + n + 1)
    rw [fb_ct_succ]
    omega
theorem fb_ct_mono (p : Nat → Bool) {m n : Nat} (h : m ≤ n) : fb_ct p m ≤ fb_ct p n := by
  have := fb_ct_step p m (n - m)
  rwa [Nat.add_sub_cancel' h] at this
theorem fb_ct_cong {p q : Nat → Bool} : ∀ {n : Nat}, (∀ k, k < n → p k = q k) → fb_ct p n = fb_ct q n
  | 0, _ => rfl
  | n + 1, h => by
    rw [fb_ct_succ, fb_ct_succ, fb_ct_cong (fun k hk => h k (by omega)), h n (by omega)]
/-- one place changed -/
theorem fb_ct_out (p : Nat → Bool) (b : Bool) {i n : Nat} (h : n ≤ i) : fb_ct (fun k => if k = i then b else p k) n = fb_ct p n :=
  fb_ct_cong fun k hk => if_neg (by omega)
theorem fb_ct_upd (p : Nat → Bool) (b : Bool) {i : Nat} : ∀ {n : Nat}, i < n → fb_ct (fun k => if k = i then b else p k) n + (if p i then 1 else 0) = fb_ct p n + (if b then 1 else 0)
  | 0, h => absurd h (Nat.not_lt_zero i)
  | n + 1, h => by
    rw [fb_ct_succ, fb_ct_succ]
    rcases Nat.lt_or_ge i n with q | q
    · have := fb_ct_upd p b q
      have e : (if n = i then b else p n) = p n := if_neg (by omega)
      rw [e]
      omega
    · have e : i = n := by omega
      subst e
      rw [fb_ct_out p b (Nat.le_refl _)]
      simp only [if_true]
      omega
theorem fb_ct_sub {p q : Nat → Bool} : ∀ {n : Nat}, (∀ k, k < n → p k = true → q k = true) → fb_ct p n ≤ fb_ct q n
  | 0, _ => Nat.le_refl _
  | n + 1, h => by
    have h1 := fb_ct_sub (n := n) (p := p) (q := q) (fun k hk => h k (by omega))
    have h2 := h n (by omega)
    rw [fb_ct_succ, fb_ct_succ]
    cases hp : p n <;> cases hq : q n <;> simp_all <;> omega
theorem fb_ct_or {p q : Nat → Bool} : ∀ {n : Nat}, (∀ k, k < n → ¬ (p k = true ∧ q k = true)) → fb_ct (fun k => p k || q k) n = fb_ct p n + fb_ct q n
  | 0, _ => rfl
  | n + 1, h => by
    have h1 := fb_ct_or (n := n) (p := p) (q := q) (fun k hk => h k (by omega))
    have h2 := h n (by omega)
    rw [fb_ct_succ, fb_ct_succ, fb_ct_succ, h1]
    cases hp : p n <;> cases hq : q n <;> simp_all <;> omega
theorem fb_ct_not (p : Nat → Bool) : ∀ n, fb_ct p n + fb_ct (fun k => !p k) n = n
  | 0 => rfl
  | n + 1 => by
    have h := fb_ct_not p n
    rw [fb_ct_succ, fb_ct_succ]
    cases p n <;> simp <;> omega
theorem fb_ct_split (p : Nat → Bool) (m : Nat) : ∀ n, fb_ct p (m + n) = fb_ct p m + fb_ct (fun k => p (m + k)) n
  | 0 => rfl
  | n + 1 => by
    have h := fb_ct_split p m n
    show fb_ct p (m + n + 1) = _
    rw [fb_ct_succ, fb_ct_succ, h, Nat.add_assoc]
theorem fb_ct_zero {p : Nat → Bool} : ∀ {n : Nat}, fb_ct p n = 0 ↔ ∀ k, k < n → p k = false
  | 0 => ⟨fun _ k hk => absurd hk (Nat.not_lt_zero k), fun _ => rfl⟩
  | n + 1 => by
    have h := fb_ct_zero (p := p) (n := n)
    rw [fb_ct_succ]
    constructor
    · intro e k hk
      have e1 : fb_ct p n = 0 := by omega
      rcases Nat.lt_or_ge k n with q | q
      · exact h.mp e1 k q
      · have ek : k = n := by omega
        subst ek
        cases hp : p k
        · rfl
        · simp [hp] at e
    · intro a
      rw [h.mpr (fun k hk => a k (by omega)), a n (by omega)]
      rfl
theorem fb_ct_pos {p : Nat → Bool} {n : Nat} : 0 < fb_ct p n ↔ ∃ k, k < n ∧ p k = true := by
  constructor
  · intro h
    refine Classical.byContradiction fun hx => ?_
    have := fb_ct_zero.mpr (fun k hk => by
      cases hp : p k
      · rfl
      · exact absurd ⟨k, hk, hp⟩ hx : ∀ k, k < n → p k = false)
    omega
  · rintro ⟨k, hk, hp⟩
    rcases Nat.eq_zero_or_pos (fb_ct p n) with e | e
    · have := fb_ct_zero.mp e k hk
      rw [this] at hp
      cases hp
    · exact e
theorem fb_ct_all {p : Nat → Bool} {n : Nat} : fb_ct p n = n ↔ ∀ k, k < n → p k = true := by
  have h := fb_ct_not p n
  constructor
  · intro e k hk
    have z : fb_ct (fun k => !p k) n = 0 := by omega
    have := fb_ct_zero.mp z k hk
    cases hp : p k
    · simp [hp] at this
    · rfl
  · intro a
    have z : fb_ct (fun k => !p k) n = 0 := fb_ct_zero.mpr (fun k hk => by simp [a k hk])
    omega
/-- the k-th place with the property -/
theorem fb_ct_kth {p : Nat → Bool} {k : Nat} : ∀ {n : Nat}, k < fb_ct p n → ∃ i, i < n ∧ p i = true ∧ fb_ct p i = k
  | 0, h => absurd h (Nat.not_lt_zero k)
  | n + 1, h => by
    rcases Nat.lt_or_ge k (fb_ct p n) with q | q
    · obtain ⟨i, h1, h2⟩ := fb_ct_kth q
      exact ⟨i, by omega, h2⟩
    · rw [fb_ct_succ] at h
      cases hp : p n
      · simp [hp] at h; omega
      · simp [hp] at h
        exact ⟨n, by omega, hp, by omega⟩
theorem fb_ct_kth_one {p : Nat → Bool} {i j : Nat} (hi : p i = true) (hj : p j = true) (e : fb_ct p i = fb_ct p j) : i = j := by
  have key : ∀ a b : Nat, a < b → p a = true → fb_ct p a < fb_ct p b := by
    intro a b hab ha
    have h := fb_ct_mono p (show a + 1 ≤ b from hab)
    rw [fb_ct_succ, ha] at h
    simp at h
    omega
  rcases Nat.lt_trichotomy i j with q | q | q
  · have := key i j q hi; omega
  · exact q
  · have := key j i q hj; omega
/-! ===== sums over a range: one place changed, parts, bounds ===== -/
def fb_sm (f : Nat → Nat) : Nat → Nat
  | 0 => 0
  | n + 1 => fb_sm f n + f n
theorem fb_sm_succ (f : Nat → Nat) (n : Nat) : fb_sm f (n + 1) = fb_sm f n + f n := rfl
theorem fb_sm_cong {f g : Nat → Nat} : ∀ {n : Nat}, (∀ k, k < n → f k = g k) → fb_sm f n = fb_sm g n
  | 0, _ => rfl
  | n + 1, h => by rw [fb_sm_succ, fb_sm_succ, fb_sm_cong (fun k hk => h k (by omega)), h n (by omega)]
theorem fb_sm_out (f : Nat → Nat) (v : Nat) {i n : Nat} (h : n ≤ i) : fb_sm (fun k => if k = i then v else f k) n = fb_sm f n :=
  fb_sm_cong fun k hk => if_neg (by omega)
theorem fb_sm_upd (f : Nat → Nat) (v : Nat) {i : Nat} : ∀ {n : Nat}, i < n → fb_sm (fun k => if k = i then v else f k) n + f i = fb_sm f n + v
  | 0, h => absurd h (Nat.not_lt_zero i)
  | n + 1, h => by
    rw [fb_sm_succ, fb_sm_succ]
    rcases Nat.lt_or_ge i n with q | q
    · have := fb_sm_upd f v q
      have e : (if n = i then v else f n) = f n := if_neg (by omega)
      rw [e]
      omega
    · have e : i = n := by omega
      subst e
      rw [fb_sm_out f v (Nat.le_refl _)]
      simp only [if_true]
      omega
theorem fb_sm_add (f g : Nat → Nat) : ∀ n, fb_sm (fun k => f k + g k) n = fb_sm f n + fb_sm g n
  | 0 => rfl
  | n + 1 => by
    have h := fb_sm_add f g n
    rw [fb_sm_succ, fb_sm_succ, fb_sm_succ, h]
    omega
theorem fb_sm_le {f g : Nat → Nat} : ∀ {n : Nat}, (∀ k, k < n → f k ≤ g k) → fb_sm f n ≤ fb_sm g n
  | 0, _ => Nat.le_refl _
  | n + 1, h => by
    have h1 := fb_sm_le (n := n) (f := f) (g := g) (fun k hk => h k (by omega))
    have h2 := h n (by omega)
    rw [fb_sm_succ, fb_sm_succ]
    omega
theorem fb_sm_const (c : Nat) : ∀ n, fb_sm (fun _ => c) n = n * c
  | 0 => by rw [Nat.zero_mul]; rfl
  | n + 1 => by rw [fb_sm_succ, fb_sm_const c n, Nat.succ_mul]
theorem fb_sm_bound {f : Nat → Nat} {c n : Nat} (h : ∀ k, k < n → f k ≤ c) : fb_sm f n ≤ n * c := by
  rw [← fb_sm_const c n]
  exact fb_sm_le h
theorem fb_sm_mono (f : Nat → Nat) (m : Nat) : ∀ n, fb_sm f m ≤ fb_sm f (m + n)
  | 0 => Nat.le_refl _
  | n + 1 => by
    have h := fb_sm_mono f m n
    show fb_sm f m ≤ fb_sm f (m + n + 1)
    rw [fb_sm_succ]
    omega
theorem fb_sm_part (f : Nat → Nat) {i n : Nat} (h : i < n) : fb_sm f i + f i ≤ fb_sm f n := by
  have := fb_sm_mono f (i + 1) (n - (i + 1))
  rw [fb_sm_succ, show i + 1 + (n - (i + 1)) = n by omega] at this
  exact this
theorem fb_sm_split (f : Nat → Nat) (m : Nat) : ∀ n, fb_sm f (m + n) = fb_sm f m + fb_sm (fun k => f (m + k)) n
  | 0 => rfl
  | n + 1 => by
    have h := fb_sm_split f m n
    show fb_sm f (m + n + 1) = _
    rw [fb_sm_succ, fb_sm_succ, h, Nat.add_assoc]
theorem fb_sm_zero {f : Nat → Nat} {n : Nat} (h : fb_sm f n = 0) : ∀ k, k < n → f k = 0 := fun k hk => by
  have := fb_sm_part f hk
  omega
/-- the same over whole numbers -/
def fb_si (f : Nat → Int) : Nat → Int
  | 0 => 0
  | n + 1 => fb_si f n + f n
theorem fb_si_succ (f : Nat → Int) (n : Nat) : fb_si f (n + 1) = fb_si f n + f n := rfl
theorem fb_si_cong {f g : Nat → Int} : ∀ {n : Nat}, (∀ k, k < n → f k = g k) → fb_si f n = fb_si g n
  | 0, _ => rfl
  | n + 1, h => by rw [fb_si_succ, fb_si_succ, fb_si_cong (fun k hk => h k (by omega)), h n (by omega)]
theorem fb_si_out (f : Nat → Int) (v : Int) {i n : Nat} (h : n ≤ i) : fb_si (fun k => if k = i then v else f k) n = fb_si f n :=
  fb_si_cong fun k hk => if_neg (by omega)
theorem fb_si_upd (f : Nat → Int) (v : Int) {i : Nat} : ∀ {n : Nat}, i < n → fb_si (fun k => if k = i then v else f k) n = fb_si f n - f i + v
  | 0, h => absurd h (Nat.not_lt_zero i)
  | n + 1, h => by
    rw [fb_si_succ, fb_si_succ]
    rcases Nat.lt_or_ge i n with q | q
    · have := fb_si_upd f v q
      have e : (if n = i then v else f n) = f n := if_neg (by omega)
      rw [e]
      omega
    · have e : i = n := by omega
      subst e
      rw [fb_si_out f v (Nat.le_refl _)]
      simp only [if_true]
      omega
theorem fb_si_add (f g : Nat → Int) : ∀ n, fb_si (fun k => f k + g k) n = fb_si f n + fb_si g n
  | 0 => rfl
  | n + 1 => by
    have h := fb_si_add f g n
    rw [fb_si_succ, fb_si_succ, fb_si_succ, h]
    omega
theorem fb_si_sub (f g : Nat → Int) : ∀ n, fb_si (fun k => f k - g k) n = fb_si f n - fb_si g n
  | 0 => rfl
  | n + 1 => by
    have h := fb_si_sub f g n
    rw [fb_si_succ, fb_si_succ, fb_si_succ, h]
    omega
theorem fb_si_mul (c : Int) (f : Nat → Int) : ∀ n, fb_si (fun k => c * f k) n = c * fb_si f n
  | 0 => (Int.mul_zero c).symm
  | n + 1 => by
    have h := fb_si_mul c f n
    rw [fb_si_succ, fb_si_succ, h, Int.mul_add]
theorem fb_si_split (f : Nat → Int) (m : Nat) : ∀ n, fb_si f (m + n) = fb_si f m + fb_si (fun k => f (m + k)) n
  | 0 => (Int.add_zero _).symm
  | n + 1 => by
    have h := fb_si_split f m n
    show fb_si f (m + n + 1) = _
    rw [fb_si_succ, fb_si_succ, h, Int.add_assoc]
theorem fb_si_nat (f : Nat → Nat) : ∀ n, fb_si (fun k => (f k : Int)) n = (fb_sm f n : Int)
  | 0 => rfl
  | n + 1 => by
    have h := fb_si_nat f n
    rw [fb_si_succ, fb_sm_succ, h]
    omega
theorem fb_si_bound {f : Nat → Int} {c : Int} (hc : 0 ≤ c) : ∀ {n : Nat}, (∀ k, k < n → -c ≤ f k ∧ f k ≤ c) → -(n * c) ≤ fb_si f n ∧ fb_si f n ≤ n * c
  | 0, _ => by simp [fb_si]
  | n + 1, h => by
    have h1 := fb_si_bound (n := n) (f := f) hc (fun k hk => h k (by omega))
    have h2 := h n (by omega)
    have e : ((n + 1 : Nat) : Int) * c = n * c + c := by rw [Int.natCast_add, Int.add_mul]; simp
    rw [fb_si_succ, e]
    omega
/-! ===== bits of a long that isn't negative ===== -/
theorem fb_andL (a b : Nat) : lN a &&& lN b = lN (a &&& b) := by
  apply Int64.toBitVec_inj.1
  show BitVec.ofNat 64 a &&& BitVec.ofNat 64 b = BitVec.ofNat 64 (a &&& b)
  apply BitVec.eq_of_getLsbD_eq
  intro i hi
  simp [hi]
theorem fb_orL (a b : Nat) : lN a ||| lN b = lN (a ||| b) := by
  apply Int64.toBitVec_inj.1
  show BitVec.ofNat 64 a ||| BitVec.ofNat 64 b = BitVec.ofNat 64 (a ||| b)
  apply BitVec.eq_of_getLsbD_eq
  intro i hi
  simp [hi]
theorem fb_xorL (a b : Nat) : lN a ^^^ lN b = lN (a ^^^ b) := by
  apply Int64.toBitVec_inj.1
  show BitVec.ofNat 64 a ^^^ BitVec.ofNat 64 b = BitVec.ofNat 64 (a ^^^ b)
  apply BitVec.eq_of_getLsbD_eq
  intro i hi
  simp [hi]
theorem fb_xorI (a b : Nat) : nI a ^^^ nI b = nI (a ^^^ b) := by
  apply Int32.toBitVec_inj.1
  show BitVec.ofNat 32 a ^^^ BitVec.ofNat 32 b = BitVec.ofNat 32 (a ^^^ b)
  apply BitVec.eq_of_getLsbD_eq
  intro i hi
  simp [hi]
theorem fb_maskL (n k : Nat) : lN n &&& lN (2 ^ k - 1) = lN (n % 2 ^ k) := by rw [fb_andL, Nat.and_two_pow_sub_one_eq_mod]
theorem fb_or_sumL {a k : Nat} (b : Nat) (h : a < 2 ^ k) : lN (2 ^ k * b) ||| lN a = lN (2 ^ k * b + a) := by rw [fb_orL, Nat.two_pow_add_eq_or_of_lt h]
theorem fb_lN_inj {a b : Nat} (ha : a < 2 ^ 63) (hb : b < 2 ^ 63) : lN a = lN b ↔ a = b := by
  constructor
  · intro h
    have h1 : (BitVec.ofNat 64 a).toNat = (BitVec.ofNat 64 b).toNat := congrArg (fun x : Int64 => x.toBitVec.toNat) h
    rw [BitVec.toNat_ofNat, BitVec.toNat_ofNat, Nat.mod_eq_of_lt (by omega), Nat.mod_eq_of_lt (by omega)] at h1
    exact h1
  · rintro rfl; rfl
theorem fb_bit_nat (n j : Nat) : n &&& 2 ^ j = 0 ↔ n.testBit j = false := by
  constructor
  · intro h
    have h1 : (n &&& 2 ^ j).testBit j = false := by rw [h]; simp
    rw [Nat.testBit_and] at h1
    simpa using h1
  · intro h
    apply Nat.eq_of_testBit_eq
    intro i
    rw [Nat.testBit_and]
    by_cases hi : j = i
    · subst hi; simp [h]
    · first | (simp [Nat.testBit_two_pow, hi]; done) | (simp [Nat.testBit_two_pow_of_ne hi]; done)
/-- one bit of a long -/
theorem fb_bitL {n j : Nat} (hj : j < 63) : lN n &&& lN (2 ^ j) = 0 ↔ n.testBit j = false := by
  have h2 : (2 : Nat) ^ j < 2 ^ 63 := Nat.pow_lt_pow_right (by decide) hj
  have hle : n &&& 2 ^ j ≤ 2 ^ j := Nat.and_le_right
  rw [fb_andL, ← fb_bit_nat, show (0 : Int64) = lN 0 from rfl]
  exact fb_lN_inj (by omega) (by decide)
/-- a bit set, a bit taken off -/
theorem fb_bit_set (n j i : Nat) : (n ||| 2 ^ j).testBit i = (n.testBit i || decide (i = j)) := by
  rw [Nat.testBit_or]
  by_cases h : j = i
  · subst h; simp
  · have h2 : ¬ i = j := fun e => h e.symm
    first | (simp [Nat.testBit_two_pow, h, h2]; done) | (simp [Nat.testBit_two_pow_of_ne h, h2]; done)
theorem fb_bit_flip (n j i : Nat) : (n ^^^ 2 ^ j).testBit i = (n.testBit i ^^ decide (i = j)) := by
  rw [Nat.testBit_xor]
  by_cases h : j = i
  · subst h; simp
  · have h2 : ¬ i = j := fun e => h e.symm
    first | (simp [Nat.testBit_two_pow, h, h2]; done) | (simp [Nat.testBit_two_pow_of_ne h, h2]; done)
end
section
/-! own rows, pure: words as numbers of seven figures to the base 27 (0: no letter, 1 .. 26), and as the class packs them -/
def bsg (v i : Nat) : Nat := v / 27 ^ (6 - i) % 27
def bch (x : Nat) : Nat := if x = 0 then 0 else x + 96
def be8 (v : Nat) : Nat := (((((bch (bsg v 0) * 256 + bch (bsg v 1)) * 256 + bch (bsg v 2)) * 256 + bch (bsg v 3)) * 256 + bch (bsg v 4)) * 256 + bch (bsg v 5)) * 256 + bch (bsg v 6)
/-- the first place below n with the property, or n -/
def bfs (p : Nat → Bool) : Nat → Nat
  | 0 => 0
  | n + 1 => if bfs p n < n then bfs p n else if p n then n else n + 1
theorem bfs_le (p : Nat → Bool) : ∀ n, bfs p n ≤ n
  | 0 => Nat.le_refl 0
  | n + 1 => by
    have ih := bfs_le p n
    unfold bfs
    split
    · omega
    · split <;> omega
theorem bfs_no (p : Nat → Bool) : ∀ n k, k < bfs p n → p k = false
  | 0, k, h => absurd h (Nat.not_lt_zero k)
  | n + 1, k, h => by
    have ih := bfs_no p n k
    have hle := bfs_le p n
    unfold bfs at h
    split at h
    · exact ih h
    · split at h
      · exact ih (by omega)
      · next h1 h2 =>
        rcases Nat.lt_or_ge k n with q | q
        · exact ih (by omega)
        · have e : k = n := by omega
          subst e
          simpa using h2
theorem bfs_yes (p : Nat → Bool) : ∀ n, bfs p n < n → p (bfs p n) = true
  | 0, h => absurd h (Nat.not_lt_zero _)
  | n + 1, h => by
    have ih := bfs_yes p n
    unfold bfs at h ⊢
    split at h
    · next h1 => rw [if_pos h1]; exact ih h1
    · next h1 =>
      rw [if_neg h1]
      split at h
      · next h2 => rw [if_pos h2]; exact h2
      · omega
theorem bfs_eq {p : Nat → Bool} {n i : Nat} (hi : i ≤ n) (h1 : ∀ k, k < i → p k = false) (h2 : i < n → p i = true) : bfs p n = i := by
  rcases Nat.lt_trichotomy (bfs p n) i with h | h | h
  · have := bfs_yes p n (by omega)
    rw [h1 _ h] at this
    cases this
  · exact h
  · have := bfs_no p n i h
    rw [h2 (Nat.lt_of_lt_of_le h (bfs_le p n))] at this
    cases this
theorem bfs_cong {p q : Nat → Bool} {n : Nat} (h : ∀ k, k < n → p k = q k) : bfs p n = bfs q n :=
  bfs_eq (bfs_le q n) (fun k hk => by rw [h k (Nat.lt_of_lt_of_le hk (bfs_le q n))]; exact bfs_no q n k hk) (fun hl => by rw [h _ hl]; exact bfs_yes q n hl)
def bln (v : Nat) : Nat := bfs (fun i => bsg v i == 0) 7
def bsh (u v : Nat) : Nat := bfs (fun i => bsg u i == 0 || bsg u i != bsg v i) 7
def bhd (v n : Nat) : Nat := v - v % 27 ^ (7 - n)
/-- a word: seven figures, none behind an empty one -/
def bwf (v : Nat) : Prop := v < 27 ^ 7 ∧ ∀ i, i < 6 → bsg v i = 0 → bsg v (i + 1) = 0
def bmx (f : Nat → Nat) : Nat → Nat
  | 0 => 0
  | n + 1 => max (bmx f n) (f n)
theorem bln_le (v : Nat) : bln v ≤ 7 := bfs_le _ 7
theorem bsh_le (u v : Nat) : bsh u v ≤ 7 := bfs_le _ 7
theorem bsg_lt (v i : Nat) : bsg v i < 27 := Nat.mod_lt _ (by decide)
theorem bch_lt {x : Nat} (h : x < 27) : bch x < 123 := by unfold bch; split <;> omega
theorem bch_inj {x y : Nat} : bch x = bch y ↔ x = y := by unfold bch; split <;> split <;> omega
theorem bch_0 {x : Nat} : bch x = 0 ↔ x = 0 := by unfold bch; split <;> omega
theorem bch_sg (v i : Nat) : bch (bsg v i) < 123 := bch_lt (bsg_lt v i)
theorem be8_lt (v : Nat) : be8 v < 2 ^ 56 := by
  have h0 := bch_sg v 0; have h1 := bch_sg v 1; have h2 := bch_sg v 2; have h3 := bch_sg v 3; have h4 := bch_sg v 4; have h5 := bch_sg v 5; have h6 := bch_sg v 6
  unfold be8
  omega
theorem be8_63 (v : Nat) : be8 v < 2 ^ 63 := Nat.lt_trans (be8_lt v) (by decide)
theorem be8_64 (v : Nat) : be8 v < 2 ^ 64 := Nat.lt_trans (be8_lt v) (by decide)
theorem blt7 {P : Nat → Prop} (h0 : P 0) (h1 : P 1) (h2 : P 2) (h3 : P 3) (h4 : P 4) (h5 : P 5) (h6 : P 6) : ∀ i, i < 7 → P i
  | 0, _ => h0 | 1, _ => h1 | 2, _ => h2 | 3, _ => h3 | 4, _ => h4 | 5, _ => h5 | 6, _ => h6
  | n + 7, h => absurd h (by omega)
theorem be8_dig (v : Nat) : ∀ j, j < 7 → be8 v / 2 ^ (8 * (6 - j)) % 2 ^ 8 = bch (bsg v j) := by
  have h0 := bch_sg v 0; have h1 := bch_sg v 1; have h2 := bch_sg v 2; have h3 := bch_sg v 3; have h4 := bch_sg v 4; have h5 := bch_sg v 5; have h6 := bch_sg v 6
  unfold be8
  intro j hj
  match j, hj with
  | 0, _ =>
    show _ / 281474976710656 % 256 = bch (bsg v 0)
    omega
  | 1, _ =>
    show _ / 1099511627776 % 256 = bch (bsg v 1)
    omega
  | 2, _ =>
    show _ / 4294967296 % 256 = bch (bsg v 2)
    omega
  | 3, _ =>
    show _ / 16777216 % 256 = bch (bsg v 3)
    omega
  | 4, _ =>
    show _ / 65536 % 256 = bch (bsg v 4)
    omega
  | 5, _ =>
    show _ / 256 % 256 = bch (bsg v 5)
    omega
  | 6, _ =>
    show _ / 1 % 256 = bch (bsg v 6)
    omega
  | n + 7, h => exact absurd h (by omega)
theorem bsg_e (v : Nat) : bsg v 0 = v / 387420489 % 27 ∧ bsg v 1 = v / 14348907 % 27 ∧ bsg v 2 = v / 531441 % 27 ∧ bsg v 3 = v / 19683 % 27 ∧ bsg v 4 = v / 729 % 27 ∧ bsg v 5 = v / 27 % 27 ∧ bsg v 6 = v / 1 % 27 := ⟨rfl, rfl, rfl, rfl, rfl, rfl, rfl⟩
theorem bsg_val {v : Nat} (h : v < 27 ^ 7) : v = (((((bsg v 0 * 27 + bsg v 1) * 27 + bsg v 2) * 27 + bsg v 3) * 27 + bsg v 4) * 27 + bsg v 5) * 27 + bsg v 6 := by
  obtain ⟨e0, e1, e2, e3, e4, e5, e6⟩ := bsg_e v
  rw [e0, e1, e2, e3, e4, e5, e6]
  omega
theorem bsg_ext {u v : Nat} (hu : u < 27 ^ 7) (hv : v < 27 ^ 7) (h : ∀ i, i < 7 → bsg u i = bsg v i) : u = v := by
  rw [bsg_val hu, bsg_val hv, h 0 (by decide), h 1 (by decide), h 2 (by decide), h 3 (by decide), h 4 (by decide), h 5 (by decide), h 6 (by decide)]
theorem bst {A B a b A' B' a' b' : Nat} (h1 : A < B ↔ A' < B') (h2 : A = B ↔ A' = B') (k1 : a < b ↔ a' < b') (k2 : a = b ↔ a' = b') (ha : a < 27) (hb : b < 27) (ha' : a' < 256) (hb' : b' < 256) :
    (A * 27 + a < B * 27 + b ↔ A' * 256 + a' < B' * 256 + b') ∧ (A * 27 + a = B * 27 + b ↔ A' * 256 + a' = B' * 256 + b') := by
  rcases Nat.lt_trichotomy A B with h | h | h
  · have := h1.mp h
    constructor <;> constructor <;> intro <;> omega
  · have := h2.mp h
    constructor <;> constructor <;> intro <;> omega
  · have e1 : ¬ A' < B' := fun q => absurd (h1.mpr q) (by omega)
    have e2 : ¬ A' = B' := fun q => absurd (h2.mpr q) (by omega)
    constructor <;> constructor <;> intro <;> omega
theorem bch_lti {x y : Nat} : x < y ↔ bch x < bch y := by unfold bch; split <;> split <;> omega
theorem be8_cmp {u v : Nat} (hu : u < 27 ^ 7) (hv : v < 27 ^ 7) : (u < v ↔ be8 u < be8 v) ∧ (u = v ↔ be8 u = be8 v) := by
  have L : ∀ x i, bch (bsg x i) < 256 := fun x i => Nat.lt_trans (bch_sg x i) (by decide)
  have s : ∀ {A B A' B' : Nat} (i : Nat), ((A < B ↔ A' < B') ∧ (A = B ↔ A' = B')) → ((A * 27 + bsg u i < B * 27 + bsg v i ↔ A' * 256 + bch (bsg u i) < B' * 256 + bch (bsg v i)) ∧ (A * 27 + bsg u i = B * 27 + bsg v i ↔ A' * 256 + bch (bsg u i) = B' * 256 + bch (bsg v i))) :=
    fun i h => bst h.1 h.2 bch_lti bch_inj.symm (bsg_lt u i) (bsg_lt v i) (L u i) (L v i)
  have h0 : (bsg u 0 < bsg v 0 ↔ bch (bsg u 0) < bch (bsg v 0)) ∧ (bsg u 0 = bsg v 0 ↔ bch (bsg u 0) = bch (bsg v 0)) := ⟨bch_lti, bch_inj.symm⟩
  have h6 := s 6 (s 5 (s 4 (s 3 (s 2 (s 1 h0)))))
  rw [← bsg_val hu, ← bsg_val hv] at h6
  exact h6
theorem be8_ltI {u v : Nat} (hu : u < 27 ^ 7) (hv : v < 27 ^ 7) : be8 u < be8 v ↔ u < v := (be8_cmp hu hv).1.symm
theorem be8_eqI {u v : Nat} (hu : u < 27 ^ 7) (hv : v < 27 ^ 7) : be8 u = be8 v ↔ u = v := (be8_cmp hu hv).2.symm
theorem be8_leI {u v : Nat} (hu : u < 27 ^ 7) (hv : v < 27 ^ 7) : be8 u ≤ be8 v ↔ u ≤ v := by
  have h1 := (be8_cmp hv hu).1
  omega
end
section
theorem lv_cg {ls : Array Slot} {n : Nat} {l l' : List (Nat × Value)} (h : lv_has ls n l) (e : l = l') : lv_has ls n l' := e ▸ h
theorem ct_y {p : Nat → Bool} {n : Nat} (h : p n = true) : fb_ct p n + 1 = fb_ct p (n + 1) := by rw [fb_ct_succ, if_pos h]
theorem ct_n {p : Nat → Bool} {n : Nat} (h : p n = false) : fb_ct p n = fb_ct p (n + 1) := by rw [fb_ct_succ, h]; rfl
theorem bln_nz {v k : Nat} (h : k < bln v) : bsg v k ≠ 0 := by
  have := bfs_no _ 7 k h
  simpa using this
theorem bln_z {v : Nat} (h : bln v < 7) : bsg v (bln v) = 0 := by
  have := bfs_yes _ 7 h
  exact by simpa [bln] using this
theorem bwf_z {v : Nat} (hv : bwf v) : ∀ i, i < 7 → bln v ≤ i → bsg v i = 0
  | 0, h, h2 => by
    have e : bln v = 0 := by omega
    have := bln_z (v := v) (by omega)
    rwa [e] at this
  | i + 1, h, h2 => by
    rcases Nat.lt_or_ge i (bln v) with q | q
    · have e : bln v = i + 1 := by omega
      have := bln_z (v := v) (by omega)
      rwa [e] at this
    · exact hv.2 i (by omega) (bwf_z hv i (by omega) q)
theorem bwf_mod {v : Nat} (hv : bwf v) : ∀ n, n ≤ 7 → bln v ≤ n → v % 27 ^ (7 - n) = 0 := by
  obtain ⟨e0, e1, e2, e3, e4, e5, e6⟩ := bsg_e v
  have h := bwf_z hv
  intro n hn hl
  match n, hn with
  | 0, _ =>
    have z0 := h 0 (by decide) (by omega); have z1 := h 1 (by decide) (by omega); have z2 := h 2 (by decide) (by omega); have z3 := h 3 (by decide) (by omega); have z4 := h 4 (by decide) (by omega); have z5 := h 5 (by decide) (by omega); have z6 := h 6 (by decide) (by omega)
    show v % 10460353203 = 0
    omega
  | 1, _ =>
    have z1 := h 1 (by decide) (by omega); have z2 := h 2 (by decide) (by omega); have z3 := h 3 (by decide) (by omega); have z4 := h 4 (by decide) (by omega); have z5 := h 5 (by decide) (by omega); have z6 := h 6 (by decide) (by omega)
    show v % 387420489 = 0
    omega
  | 2, _ =>
    have z2 := h 2 (by decide) (by omega); have z3 := h 3 (by decide) (by omega); have z4 := h 4 (by decide) (by omega); have z5 := h 5 (by decide) (by omega); have z6 := h 6 (by decide) (by omega)
    show v % 14348907 = 0
    omega
  | 3, _ =>
    have z3 := h 3 (by decide) (by omega); have z4 := h 4 (by decide) (by omega); have z5 := h 5 (by decide) (by omega); have z6 := h 6 (by decide) (by omega)
    show v % 531441 = 0
    omega
  | 4, _ =>
    have z4 := h 4 (by decide) (by omega); have z5 := h 5 (by decide) (by omega); have z6 := h 6 (by decide) (by omega)
    show v % 19683 = 0
    omega
  | 5, _ =>
    have z5 := h 5 (by decide) (by omega); have z6 := h 6 (by decide) (by omega)
    show v % 729 = 0
    omega
  | 6, _ =>
    have z6 := h 6 (by decide) (by omega)
    show v % 27 = 0
    omega
  | 7, _ =>
    show v % 1 = 0
    omega
  | n + 8, h => exact absurd h (by omega)
theorem bsg_add {v n x : Nat} (hn : n < 7) (hz : v % 27 ^ (7 - n) = 0) (hx : x < 27) : ∀ i, i < 7 → bsg (v + x * 27 ^ (6 - n)) i = if i = n then x else bsg v i := by
  match n, hn with
  | 0, _ =>
    have hz : v % 10460353203 = 0 := hz
    refine blt7 ?_ ?_ ?_ ?_ ?_ ?_ ?_
    · show (v + x * 387420489) / 387420489 % 27 = x
      omega
    · show (v + x * 387420489) / 14348907 % 27 = v / 14348907 % 27
      omega
    · show (v + x * 387420489) / 531441 % 27 = v / 531441 % 27
      omega
    · show (v + x * 387420489) / 19683 % 27 = v / 19683 % 27
      omega
    · show (v + x * 387420489) / 729 % 27 = v / 729 % 27
      omega
    · show (v + x * 387420489) / 27 % 27 = v / 27 % 27
      omega
    · show (v + x * 387420489) / 1 % 27 = v / 1 % 27
      omega
  | 1, _ =>
    have hz : v % 387420489 = 0 := hz
    refine blt7 ?_ ?_ ?_ ?_ ?_ ?_ ?_
    · show (v + x * 14348907) / 387420489 % 27 = v / 387420489 % 27
      omega
    · show (v + x * 14348907) / 14348907 % 27 = x
      omega
    · show (v + x * 14348907) / 531441 % 27 = v / 531441 % 27
      omega
    · show (v + x * 14348907) / 19683 % 27 = v / 19683 % 27
      omega
    · show (v + x * 14348907) / 729 % 27 = v / 729 % 27
      omega
    · show (v + x * 14348907) / 27 % 27 = v / 27 % 27
      omega
    · show (v + x * 14348907) / 1 % 27 = v / 1 % 27
      omega
  | 2, _ =>
    have hz : v % 14348907 = 0 := hz
    refine blt7 ?_ ?_ ?_ ?_ ?_ ?_ ?_
    · show (v + x * 531441) / 387420489 % 27 = v / 387420489 % 27
      omega
    · show (v + x * 531441) / 14348907 % 27 = v / 14348907 % 27
      omega
    · show (v + x * 531441) / 531441 % 27 = x
      omega
    · show (v + x * 531441) / 19683 % 27 = v / 19683 % 27
      omega
    · show (v + x * 531441) / 729 % 27 = v / 729 % 27
      omega
    · show (v + x * 531441) / 27 % 27 = v / 27 % 27
      omega
    · show (v + x * 531441) / 1 % 27 = v / 1 % 27
      omega
  | 3, _ =>
    have hz : v % 531441 = 0 := hz
    refine blt7 ?_ ?_ ?_ ?_ ?_ ?_ ?_
    · show (v + x * 19683) / 387420489 % 27 = v / 387420489 % 27
      omega
    · show (v + x * 19683) / 14348907 % 27 = v / 14348907 % 27
      omega
    · show (v + x * 19683) / 531441 % 27 = v / 531441 % 27
      omega
    · show (v + x * 19683) / 19683 % 27 = x
      omega
    · show (v + x * 19683) / 729 % 27 = v / 729 % 27
      omega
    · show (v + x * 19683) / 27 % 27 = v / 27 % 27
      omega
    · show (v + x * 19683) / 1 % 27 = v / 1 % 27
      omega
  | 4, _ =>
    have hz : v % 19683 = 0 := hz
    refine blt7 ?_ ?_ ?_ ?_ ?_ ?_ ?_
    · show (v + x * 729) / 387420489 % 27 = v / 387420489 % 27
      omega
    · show (v + x * 729) / 14348907 % 27 = v / 14348907 % 27
      omega
    · show (v + x * 729) / 531441 % 27 = v / 531441 % 27
      omega
    · show (v + x * 729) / 19683 % 27 = v / 19683 % 27
      omega
    · show (v + x * 729) / 729 % 27 = x
      omega
    · show (v + x * 729) / 27 % 27 = v / 27 % 27
      omega
    · show (v + x * 729) / 1 % 27 = v / 1 % 27
      omega
  | 5, _ =>
    have hz : v % 729 = 0 := hz
    refine blt7 ?_ ?_ ?_ ?_ ?_ ?_ ?_
    · show (v + x * 27) / 387420489 % 27 = v / 387420489 % 27
      omega
    · show (v + x * 27) / 14348907 % 27 = v / 14348907 % 27
      omega
    · show (v + x * 27) / 531441 % 27 = v / 531441 % 27
      omega
    · show (v + x * 27) / 19683 % 27 = v / 19683 % 27
      omega
    · show (v + x * 27) / 729 % 27 = v / 729 % 27
      omega
    · show (v + x * 27) / 27 % 27 = x
      omega
    · show (v + x * 27) / 1 % 27 = v / 1 % 27
      omega
  | 6, _ =>
    have hz : v % 27 = 0 := hz
    refine blt7 ?_ ?_ ?_ ?_ ?_ ?_ ?_
    · show (v + x * 1) / 387420489 % 27 = v / 387420489 % 27
      omega
    · show (v + x * 1) / 14348907 % 27 = v / 14348907 % 27
      omega
    · show (v + x * 1) / 531441 % 27 = v / 531441 % 27
      omega
    · show (v + x * 1) / 19683 % 27 = v / 19683 % 27
      omega
    · show (v + x * 1) / 729 % 27 = v / 729 % 27
      omega
    · show (v + x * 1) / 27 % 27 = v / 27 % 27
      omega
    · show (v + x * 1) / 1 % 27 = x
      omega
  | n + 7, h => exact absurd h (by omega)
def bxt (v x : Nat) : Nat := v + x * 27 ^ (6 - bln v)
theorem bxt_sg {v x : Nat} (hv : bwf v) (hl : bln v < 7) (hx : x < 27) : ∀ i, i < 7 → bsg (bxt v x) i = if i = bln v then x else bsg v i := bsg_add hl (bwf_mod hv _ (by omega) (Nat.le_refl _)) hx
theorem bxt_len {v x : Nat} (hv : bwf v) (hl : bln v < 7) (hx : x < 27) (h0 : 0 < x) : bln (bxt v x) = bln v + 1 := by
  have s := bxt_sg hv hl hx
  refine bfs_eq (by omega) (fun k hk => ?_) (fun h => ?_)
  · rw [s k (by omega)]
    split
    · simp; omega
    · simpa using bln_nz (v := v) (k := k) (by omega)
  · rw [s _ h, if_neg (by omega), bwf_z hv _ h (by omega)]
    rfl
theorem bxt_lt {v x : Nat} (hv : bwf v) (hl : bln v < 7) (hx : x < 27) : bxt v x < 27 ^ 7 := by
  have hm := bwf_mod hv (bln v) (by omega) (Nat.le_refl _)
  have h7 := hv.1
  unfold bxt
  generalize bln v = n at *
  match n, hl with
  | 0, _ => show v + x * 387420489 < 10460353203; have hm : v % 10460353203 = 0 := hm; omega
  | 1, _ => show v + x * 14348907 < 10460353203; have hm : v % 387420489 = 0 := hm; omega
  | 2, _ => show v + x * 531441 < 10460353203; have hm : v % 14348907 = 0 := hm; omega
  | 3, _ => show v + x * 19683 < 10460353203; have hm : v % 531441 = 0 := hm; omega
  | 4, _ => show v + x * 729 < 10460353203; have hm : v % 19683 = 0 := hm; omega
  | 5, _ => show v + x * 27 < 10460353203; have hm : v % 729 = 0 := hm; omega
  | 6, _ => show v + x * 1 < 10460353203; have hm : v % 27 = 0 := hm; omega
  | n + 7, h => exact absurd h (by omega)
theorem bxt_wf {v x : Nat} (hv : bwf v) (hl : bln v < 7) (hx : x < 27) (h0 : 0 < x) : bwf (bxt v x) := by
  have s := bxt_sg hv hl hx
  refine ⟨bxt_lt hv hl hx, fun i hi h => ?_⟩
  rw [s i (by omega)] at h
  rw [s (i + 1) (by omega)]
  split at h
  · omega
  · next h1 =>
    have h2 : bln v ≤ i := Nat.not_lt.mp fun q => bln_nz q h
    rw [if_neg (by omega)]
    exact bwf_z hv _ (by omega) (by omega)
theorem bxt_or {v c : Nat} (hv : bwf v) (hl : bln v < 7) (h1 : 97 ≤ c) (h2 : c ≤ 122) : lN (be8 v) ||| lN (c * 2 ^ (8 * (6 - bln v))) = lN (be8 (bxt v (c - 96))) := by
  have s := bxt_sg hv hl (show c - 96 < 27 by omega)
  have z := bwf_z hv
  have hc : bch (c - 96) = c := by unfold bch; rw [if_neg (by omega)]; omega
  have h00 : bch 0 = 0 := rfl
  have key : ∀ k b a : Nat, a < 2 ^ k → be8 v = 2 ^ k * b → be8 (bxt v (c - 96)) = 2 ^ k * b + a → c * 2 ^ (8 * (6 - bln v)) = a → lN (be8 v) ||| lN (c * 2 ^ (8 * (6 - bln v))) = lN (be8 (bxt v (c - 96))) := by
    intro k b a ha e1 e2 e3
    rw [e1, e2, e3]
    exact fb_or_sumL b ha
  have s0 := s 0 (by decide); have s1 := s 1 (by decide); have s2 := s 2 (by decide); have s3 := s 3 (by decide); have s4 := s 4 (by decide); have s5 := s 5 (by decide); have s6 := s 6 (by decide)
  revert z s0 s1 s2 s3 s4 s5 s6 key
  generalize bln v = n at hl
  intro z key s0 s1 s2 s3 s4 s5 s6
  match n, hl with
  | 0, _ =>
    have z0 := z 0 (by decide) (by decide); have z1 := z 1 (by decide) (by decide); have z2 := z 2 (by decide) (by decide); have z3 := z 3 (by decide) (by decide); have z4 := z 4 (by decide) (by decide); have z5 := z 5 (by decide) (by decide); have z6 := z 6 (by decide) (by decide)
    have s0 : bsg (bxt v (c - 96)) 0 = c - 96 := s0
    have s1 : bsg (bxt v (c - 96)) 1 = bsg v 1 := s1
    have s2 : bsg (bxt v (c - 96)) 2 = bsg v 2 := s2
    have s3 : bsg (bxt v (c - 96)) 3 = bsg v 3 := s3
    have s4 : bsg (bxt v (c - 96)) 4 = bsg v 4 := s4
    have s5 : bsg (bxt v (c - 96)) 5 = bsg v 5 := s5
    have s6 : bsg (bxt v (c - 96)) 6 = bsg v 6 := s6
    refine key 56 (0) (c * 281474976710656) (by show _ < 72057594037927936; omega) ?_ ?_ rfl
    · show _ = 72057594037927936 * _
      unfold be8
      rw [z0, z1, z2, z3, z4, z5, z6, h00]
    · show _ = 72057594037927936 * _ + _
      unfold be8
      rw [s0, s1, s2, s3, s4, s5, s6, hc, z1, z2, z3, z4, z5, z6, h00]
      omega
  | 1, _ =>
    have z1 := z 1 (by decide) (by decide); have z2 := z 2 (by decide) (by decide); have z3 := z 3 (by decide) (by decide); have z4 := z 4 (by decide) (by decide); have z5 := z 5 (by decide) (by decide); have z6 := z 6 (by decide) (by decide)
    have s0 : bsg (bxt v (c - 96)) 0 = bsg v 0 := s0
    have s1 : bsg (bxt v (c - 96)) 1 = c - 96 := s1
    have s2 : bsg (bxt v (c - 96)) 2 = bsg v 2 := s2
    have s3 : bsg (bxt v (c - 96)) 3 = bsg v 3 := s3
    have s4 : bsg (bxt v (c - 96)) 4 = bsg v 4 := s4
    have s5 : bsg (bxt v (c - 96)) 5 = bsg v 5 := s5
    have s6 : bsg (bxt v (c - 96)) 6 = bsg v 6 := s6
    refine key 48 (bch (bsg v 0)) (c * 1099511627776) (by show _ < 281474976710656; omega) ?_ ?_ rfl
    · show _ = 281474976710656 * _
      unfold be8
      rw [z1, z2, z3, z4, z5, z6, h00]
      omega
    · show _ = 281474976710656 * _ + _
      unfold be8
      rw [s0, s1, s2, s3, s4, s5, s6, hc, z2, z3, z4, z5, z6, h00]
      omega
  | 2, _ =>
    have z2 := z 2 (by decide) (by decide); have z3 := z 3 (by decide) (by decide); have z4 := z 4 (by decide) (by decide); have z5 := z 5 (by decide) (by decide); have z6 := z 6 (by decide) (by decide)
    have s0 : bsg (bxt v (c - 96)) 0 = bsg v 0 := s0
    have s1 : bsg (bxt v (c - 96)) 1 = bsg v 1 := s1
    have s2 : bsg (bxt v (c - 96)) 2 = c - 96 := s2
    have s3 : bsg (bxt v (c - 96)) 3 = bsg v 3 := s3
    have s4 : bsg (bxt v (c - 96)) 4 = bsg v 4 := s4
    have s5 : bsg (bxt v (c - 96)) 5 = bsg v 5 := s5
    have s6 : bsg (bxt v (c - 96)) 6 = bsg v 6 := s6
    refine key 40 ((bch (bsg v 0)) * 256 + bch (bsg v 1)) (c * 4294967296) (by show _ < 1099511627776; omega) ?_ ?_ rfl
    · show _ = 1099511627776 * _
      unfold be8
      rw [z2, z3, z4, z5, z6, h00]
      omega
    · show _ = 1099511627776 * _ + _
      unfold be8
      rw [s0, s1, s2, s3, s4, s5, s6, hc, z3, z4, z5, z6, h00]
      omega
  | 3, _ =>
    have z3 := z 3 (by decide) (by decide); have z4 := z 4 (by decide) (by decide); have z5 := z 5 (by decide) (by decide); have z6 := z 6 (by decide) (by decide)
    have s0 : bsg (bxt v (c - 96)) 0 = bsg v 0 := s0
    have s1 : bsg (bxt v (c - 96)) 1 = bsg v 1 := s1
    have s2 : bsg (bxt v (c - 96)) 2 = bsg v 2 := s2
    have s3 : bsg (bxt v (c - 96)) 3 = c - 96 := s3
    have s4 : bsg (bxt v (c - 96)) 4 = bsg v 4 := s4
    have s5 : bsg (bxt v (c - 96)) 5 = bsg v 5 := s5
    have s6 : bsg (bxt v (c - 96)) 6 = bsg v 6 := s6
    refine key 32 (((bch (bsg v 0)) * 256 + bch (bsg v 1)) * 256 + bch (bsg v 2)) (c * 16777216) (by show _ < 4294967296; omega) ?_ ?_ rfl
    · show _ = 4294967296 * _
      unfold be8
      rw [z3, z4, z5, z6, h00]
      omega
    · show _ = 4294967296 * _ + _
      unfold be8
      rw [s0, s1, s2, s3, s4, s5, s6, hc, z4, z5, z6, h00]
      omega
  | 4, _ =>
    have z4 := z 4 (by decide) (by decide); have z5 := z 5 (by decide) (by decide); have z6 := z 6 (by decide) (by decide)
    have s0 : bsg (bxt v (c - 96)) 0 = bsg v 0 := s0
    have s1 : bsg (bxt v (c - 96)) 1 = bsg v 1 := s1
    have s2 : bsg (bxt v (c - 96)) 2 = bsg v 2 := s2
    have s3 : bsg (bxt v (c - 96)) 3 = bsg v 3 := s3
    have s4 : bsg (bxt v (c - 96)) 4 = c - 96 := s4
    have s5 : bsg (bxt v (c - 96)) 5 = bsg v 5 := s5
    have s6 : bsg (bxt v (c - 96)) 6 = bsg v 6 := s6
    refine key 24 ((((bch (bsg v 0)) * 256 + bch (bsg v 1)) * 256 + bch (bsg v 2)) * 256 + bch (bsg v 3)) (c * 65536) (by show _ < 16777216; omega) ?_ ?_ rfl
    · show _ = 16777216 * _
      unfold be8
      rw [z4, z5, z6, h00]
      omega
    · show _ = 16777216 * _ + _
      unfold be8
      rw [s0, s1, s2, s3, s4, s5, s6, hc, z5, z6, h00]
      omega
  | 5, _ =>
    have z5 := z 5 (by decide) (by decide); have z6 := z 6 (by decide) (by decide)
    have s0 : bsg (bxt v (c - 96)) 0 = bsg v 0 := s0
    have s1 : bsg (bxt v (c - 96)) 1 = bsg v 1 := s1
    have s2 : bsg (bxt v (c - 96)) 2 = bsg v 2 := s2
    have s3 : bsg (bxt v (c - 96)) 3 = bsg v 3 := s3
    have s4 : bsg (bxt v (c - 96)) 4 = bsg v 4 := s4
    have s5 : bsg (bxt v (c - 96)) 5 = c - 96 := s5
    have s6 : bsg (bxt v (c - 96)) 6 = bsg v 6 := s6
    refine key 16 (((((bch (bsg v 0)) * 256 + bch (bsg v 1)) * 256 + bch (bsg v 2)) * 256 + bch (bsg v 3)) * 256 + bch (bsg v 4)) (c * 256) (by show _ < 65536; omega) ?_ ?_ rfl
    · show _ = 65536 * _
      unfold be8
      rw [z5, z6, h00]
      omega
    · show _ = 65536 * _ + _
      unfold be8
      rw [s0, s1, s2, s3, s4, s5, s6, hc, z6, h00]
      omega
  | 6, _ =>
    have z6 := z 6 (by decide) (by decide)
    have s0 : bsg (bxt v (c - 96)) 0 = bsg v 0 := s0
    have s1 : bsg (bxt v (c - 96)) 1 = bsg v 1 := s1
    have s2 : bsg (bxt v (c - 96)) 2 = bsg v 2 := s2
    have s3 : bsg (bxt v (c - 96)) 3 = bsg v 3 := s3
    have s4 : bsg (bxt v (c - 96)) 4 = bsg v 4 := s4
    have s5 : bsg (bxt v (c - 96)) 5 = bsg v 5 := s5
    have s6 : bsg (bxt v (c - 96)) 6 = c - 96 := s6
    refine key 8 ((((((bch (bsg v 0)) * 256 + bch (bsg v 1)) * 256 + bch (bsg v 2)) * 256 + bch (bsg v 3)) * 256 + bch (bsg v 4)) * 256 + bch (bsg v 5)) (c * 1) (by show _ < 256; omega) ?_ ?_ rfl
    · show _ = 256 * _
      unfold be8
      rw [z6, h00]
      omega
    · show _ = 256 * _ + _
      unfold be8
      rw [s0, s1, s2, s3, s4, s5, s6, hc]
      omega
  | n + 7, h => exact absurd h (by omega)
theorem bch_ne {x y : Nat} (h : bch x ≠ bch y) : ¬ x = y := fun q => h (congrArg bch q)
end
section
abbrev rm_X3_isLetter : Room := { frames := 0, cells := 0, slots := 0, locals := 0 }
set_option maxHeartbeats 4000000 in
set_option maxRecDepth 100000 in
theorem c_X3_isLetter (l : Launch) (a : Int32) : Met l yX3_isLetter wsX3_isLetter rm_X3_isLetter (sPc [.int (a)]) (Ri (bI (!decide (a < nI 97) && !decide (nI 122 < a)))) 0 0 (fun _ => False) := by
  refine met_s (cc := cX3_isLetter) (maxL := 1) (ret := (some .boolean)) (own := RX3) (by decide) rfl rfl (Nat.le_of_ble_eq_true rfl) ?_
  intro p e s m below meth c S hr hlocks ls hl
  obtain ⟨hx, hb, hml, hown, hts⟩ := id S
  have hl : lv_has ls 1 [(0, .int (a))] := hl
  refine lv_iload_n hx hb dX3_isLetter_0 rfl (lv_at hl 0 rfl) ?_
  refine lv_bipush (v := nI (97)) hx hb dX3_isLetter_1 (by decide) ?_
  refine lv_icmp_lt (tgt := 16) hx hb dX3_isLetter_3 (by decide) (fun c_3 => ?_) (fun c_3 => ?_)
  · refine lv_iconst (v := nI (0)) hx hb dX3_isLetter_16 (by decide) ?_
    exact r_z (x := false) hx hb hr hlocks rfl (by simp [c_3]) dX3_isLetter_17
  · refine lv_iload_n hx hb dX3_isLetter_6 rfl (lv_at hl 0 rfl) ?_
    refine lv_bipush (v := nI (122)) hx hb dX3_isLetter_7 (by decide) ?_
    refine lv_icmp_gt (tgt := 16) hx hb dX3_isLetter_9 (by decide) (fun c_9 => ?_) (fun c_9 => ?_)
    · refine lv_iconst (v := nI (0)) hx hb dX3_isLetter_16 (by decide) ?_
      exact r_z (x := false) hx hb hr hlocks rfl (by simp [c_3, c_9]) dX3_isLetter_17
    · refine lv_iconst (v := nI (1)) hx hb dX3_isLetter_12 (by decide) ?_
      refine lv_goto (tgt := 17) hx hb dX3_isLetter_13 (by decide) ?_
      exact r_z (x := true) hx hb hr hlocks rfl (by simp [c_3, c_9]) dX3_isLetter_17
abbrev rm_X3_shiftOf : Room := { frames := 0, cells := 0, slots := 0, locals := 0 }
set_option maxHeartbeats 4000000 in
set_option maxRecDepth 100000 in
theorem c_X3_shiftOf (l : Launch) (i : Nat) (hi : i ≤ 6) : Met l yX3_shiftOf wsX3_shiftOf rm_X3_shiftOf (sPc [.int (nI (i))]) (Ri (nI (8 * (6 - i)))) 0 0 (fun _ => False) := by
  refine met_s (cc := cX3_shiftOf) (maxL := 1) (ret := (some .int)) (own := RX3) (by decide) rfl rfl (Nat.le_of_ble_eq_true rfl) ?_
  intro p e s m below meth c S hr hlocks ls hl
  obtain ⟨hx, hb, hml, hown, hts⟩ := id S
  have hl : lv_has ls 1 [(0, .int (nI (i)))] := hl
  refine lv_bipush (v := nI (8)) hx hb dX3_shiftOf_0 (by decide) ?_
  refine lv_bipush (v := nI (6)) hx hb dX3_shiftOf_2 (by decide) ?_
  refine lv_iload_n hx hb dX3_shiftOf_4 rfl (lv_at hl 0 rfl) ?_
  refine lv_isub hx hb dX3_shiftOf_5 ?_
  refine tpi (pk_sub (by omega)) ?_
  refine lv_imul hx hb dX3_shiftOf_6 ?_
  refine tpi (pk_mul _ _) ?_
  exact r_i hx hb hr hlocks rfl dX3_shiftOf_7
abbrev rm_X3_letterAt : Room := { frames := 1, cells := 0, slots := 0, locals := 20 }
set_option maxHeartbeats 4000000 in
set_option maxRecDepth 100000 in
theorem c_X3_letterAt (l : Launch) (v : Nat) (i : Nat) (hi : i < 7) : Met l yX3_letterAt wsX3_letterAt rm_X3_letterAt (sPc [.long (lN (be8 v)), .int (nI (i))]) (Ri (nI (bch (bsg v i)))) 0 0 (fun _ => False) := by
  refine met_s (cc := cX3_letterAt) (maxL := 3) (ret := (some .int)) (own := RX3) (by decide) rfl rfl (Nat.le_of_ble_eq_true rfl) ?_
  intro p e s m below meth c S hr hlocks ls hl
  obtain ⟨hx, hb, hml, hown, hts⟩ := id S
  have hl : lv_has ls 3 [(0, .long (lN (be8 v))), (2, .int (nI (i)))] := hl
  refine lv_iload_n hx hb dX3_letterAt_0 rfl (lv_at hl 1 rfl) ?_
  refine z_lt (tgt := 10) hx hb dX3_letterAt_1 (by decide) (by omega) ?_
  refine lv_iload_n hx hb dX3_letterAt_4 rfl (lv_at hl 1 rfl) ?_
  refine lv_bipush (v := nI (7)) hx hb dX3_letterAt_5 (by decide) ?_
  refine n_lt (tgt := 12) hx hb dX3_letterAt_7 (by decide) (by omega) (by omega) (fun c_7 => ?_) (fun c_7 => ?_)
  · refine lv_lload_n hx hb dX3_letterAt_12 rfl (lv_at hl 0 rfl) ?_
    refine lv_iload_n hx hb dX3_letterAt_13 rfl (lv_at hl 1 rfl) ?_
    refine c_Si (As := [.int (nI (i))]) (rest := [.long (lN (be8 v))]) S (c_X3_shiftOf l (i) (by omega)) (va_cwS 1 hts gX3_letterAt_X3_shiftOf rfl rfl rfl (by decide +kernel) ⟨Nat.le_of_ble_eq_true rfl, Nat.le_of_ble_eq_true rfl⟩) rfl hl.1 rfl (Nat.le_of_ble_eq_true rfl) dX3_letterAt_14 ⟨Nat.le_of_ble_eq_true rfl, Nat.le_of_ble_eq_true rfl⟩ ?_
    refine lv_lushr (v := lN ((be8 v) / 2 ^ (8 * (6 - i)))) hx hb dX3_letterAt_17 (wb_shr (be8_64 _) (by omega)) ?_
    refine lv_l2i (v := nI ((be8 v) / 2 ^ (8 * (6 - i)))) hx hb dX3_letterAt_18 (lN_i _) ?_
    refine lv_sipush (v := nI (255)) hx hb dX3_letterAt_19 (by decide) ?_
    refine lv_iand hx hb dX3_letterAt_22 ?_
    refine tpi (fa_mask _ 8) ?_
    exact r_i hx hb hr hlocks (congrArg nI (be8_dig v i hi)) dX3_letterAt_23
  · exact absurd hi (by omega)
abbrev rm_X3_lengthOf : Room := { frames := 2, cells := 0, slots := 0, locals := 42 }
set_option maxHeartbeats 4000000 in
set_option maxRecDepth 100000 in
theorem c_X3_lengthOf (l : Launch) (v : Nat) : Met l yX3_lengthOf wsX3_lengthOf rm_X3_lengthOf (sPc [.long (lN (be8 v))]) (Ri (nI (bln v))) 0 0 (fun _ => False) := by
  refine met_s (cc := cX3_lengthOf) (maxL := 3) (ret := (some .int)) (own := RX3) (by decide) rfl rfl (Nat.le_of_ble_eq_true rfl) ?_
  intro p e s m below meth c S hr hlocks ls hl
  obtain ⟨hx, hb, hml, hown, hts⟩ := id S
  have hl : lv_has ls 3 [(0, .long (lN (be8 v)))] := hl
  refine lv_iconst (v := nI (0)) hx hb dX3_lengthOf_0 (by decide) ?_
  refine lv_istore_n (lv' := [(2, .int (nI (0))), (0, .long (lN (be8 v)))]) hx hb dX3_lengthOf_1 rfl hl (by decide) rfl (fun ls hl => ?_)
  have lp_2 : ∀ (j_2 : Nat) (i : Nat), (i ≤ 7) → (∀ k, k < i → bsg v k ≠ 0) → (7 - i) < j_2 → ∀ ls : Array Slot, lv_has ls 3 [(0, .long (lN (be8 v))), (2, .int (nI (i)))] → W p l e rm_X3_lengthOf s m ([.long (lN (be8 v))] : List Value).toArray below meth c s.heap [] 0 0 (MQ below (Ri (nI (bln v))) ([.long (lN (be8 v))] : List Value).toArray s 0 0 (fun _ => False)) (F0 m 2 ls []) := by
    intro j_2
    induction j_2 with
    | zero => intro i _ _ h0; exact absurd h0 (Nat.not_lt_zero _)
    | succ j_2 ih_2 =>
      intro i hi hz hf_2 ls hl
      refine lv_iload_n hx hb dX3_lengthOf_2 rfl (lv_at hl 1 rfl) ?_
      refine lv_bipush (v := nI (7)) hx hb dX3_lengthOf_3 (by decide) ?_
      refine n_ge (tgt := 22) hx hb dX3_lengthOf_5 (by decide) (by omega) (by omega) (fun c_5 => ?_) (fun c_5 => ?_)
      · refine lv_iload_n hx hb dX3_lengthOf_22 rfl (lv_at hl 1 rfl) ?_
        exact r_i hx hb hr hlocks (congrArg nI (bfs_eq hi (fun k h => by simpa using hz k h) (fun h => absurd h (by omega))).symm) dX3_lengthOf_23
      · refine lv_lload_n hx hb dX3_lengthOf_8 rfl (lv_at hl 0 rfl) ?_
        refine lv_iload_n hx hb dX3_lengthOf_9 rfl (lv_at hl 1 rfl) ?_
        refine c_Si (As := [.long (lN (be8 v)), .int (nI (i))]) (rest := []) S (c_X3_letterAt l v i (by omega)) (va_cwS 2 hts gX3_lengthOf_X3_letterAt rfl rfl rfl (by decide +kernel) ⟨Nat.le_of_ble_eq_true rfl, Nat.le_of_ble_eq_true rfl⟩) rfl hl.1 rfl (Nat.le_of_ble_eq_true rfl) dX3_lengthOf_10 ⟨Nat.le_of_ble_eq_true rfl, Nat.le_of_ble_eq_true rfl⟩ ?_
        refine z_eq (tgt := 22) hx hb dX3_lengthOf_13 (by decide) (Nat.lt_trans (bch_sg _ _) (by decide)) (fun c_13 => ?_) (fun c_13 => ?_)
        · refine lv_iload_n hx hb dX3_lengthOf_22 rfl (lv_at hl 1 rfl) ?_
          exact r_i hx hb hr hlocks (congrArg nI (bfs_eq hi (fun k h => by simpa using hz k h) (fun h => by simpa using bch_0.mp c_13)).symm) dX3_lengthOf_23
        · refine lv_iinc (v := nI (i + 1)) (lv' := [(2, .int (nI (i + 1))), (0, .long (lN (be8 v)))]) hx hb dX3_lengthOf_16 hl (k := 1) rfl (inc1 _) (by decide) rfl (fun ls hl => ?_)
          refine lv_goto (tgt := 2) hx hb dX3_lengthOf_19 (by decide) ?_
          exact ih_2 (i + 1) (by omega) (lt_s hz (fun q => by rw [bch_0.mpr q] at c_13; exact absurd c_13 (by decide))) (by omega) ls (lv_sub hl [1, 0] rfl)
  exact lp_2 _ (0) (by omega) (fun k h => absurd h (Nat.not_lt_zero k)) (Nat.lt_succ_self _) ls (lv_sub hl [1, 0] rfl)
abbrev rm_X3_extended : Room := { frames := 1, cells := 0, slots := 0, locals := 20 }
set_option maxHeartbeats 4000000 in
set_option maxRecDepth 100000 in
theorem c_X3_extended (l : Launch) (v : Nat) (a : Nat) (hv : bwf v) (hl7 : bln v < 7) (h1 : 97 ≤ a) (h2 : a ≤ 122) : Met l yX3_extended wsX3_extended rm_X3_extended (sPc [.long (lN (be8 v)), .int (nI (bln v)), .int (nI (a))]) (Rl (lN (be8 (bxt v (a - 96))))) 0 0 (fun _ => False) := by
  refine met_s (cc := cX3_extended) (maxL := 4) (ret := (some .long)) (own := RX3) (by decide) rfl rfl (Nat.le_of_ble_eq_true rfl) ?_
  intro p e s m below meth c S hr hlocks ls hl
  obtain ⟨hx, hb, hml, hown, hts⟩ := id S
  have hl : lv_has ls 4 [(0, .long (lN (be8 v))), (2, .int (nI (bln v))), (3, .int (nI (a)))] := hl
  refine lv_iload_n hx hb dX3_extended_0 rfl (lv_at hl 1 rfl) ?_
  refine z_lt (tgt := 10) hx hb dX3_extended_1 (by decide) (by omega) ?_
  refine lv_iload_n hx hb dX3_extended_4 rfl (lv_at hl 1 rfl) ?_
  refine lv_bipush (v := nI (7)) hx hb dX3_extended_5 (by decide) ?_
  refine n_lt (tgt := 12) hx hb dX3_extended_7 (by decide) (by omega) (by omega) (fun c_7 => ?_) (fun c_7 => ?_)
  · refine lv_lload_n hx hb dX3_extended_12 rfl (lv_at hl 0 rfl) ?_
    refine lv_iload_n hx hb dX3_extended_13 rfl (lv_at hl 2 rfl) ?_
    refine lv_i2l (v := lN (a)) hx hb dX3_extended_14 (nI_l (by omega)) ?_
    refine lv_iload_n hx hb dX3_extended_15 rfl (lv_at hl 1 rfl) ?_
    refine c_Si (As := [.int (nI (bln v))]) (rest := [.long (lN (a)), .long (lN (be8 v))]) S (c_X3_shiftOf l (bln v) (by omega)) (va_cwS 1 hts gX3_extended_X3_shiftOf rfl rfl rfl (by decide +kernel) ⟨Nat.le_of_ble_eq_true rfl, Nat.le_of_ble_eq_true rfl⟩) rfl hl.1 rfl (Nat.le_of_ble_eq_true rfl) dX3_extended_16 ⟨Nat.le_of_ble_eq_true rfl, Nat.le_of_ble_eq_true rfl⟩ ?_
    refine lv_lshl (v := lN (a * 2 ^ (8 * (6 - (bln v))))) hx hb dX3_extended_19 (wb_shl _ (by omega)) ?_
    refine lv_lor hx hb dX3_extended_20 ?_
    refine tpl (bxt_or hv hl7 h1 h2) ?_
    exact r_l hx hb hr hlocks rfl dX3_extended_21
  · exact absurd hl7 (by omega)
abbrev rm_X3_sharedBy : Room := { frames := 2, cells := 0, slots := 0, locals := 42 }
set_option maxHeartbeats 4000000 in
set_option maxRecDepth 100000 in
theorem c_X3_sharedBy (l : Launch) (u : Nat) (v : Nat) : Met l yX3_sharedBy wsX3_sharedBy rm_X3_sharedBy (sPc [.long (lN (be8 u)), .long (lN (be8 v))]) (Ri (nI (bsh u v))) 0 0 (fun _ => False) := by
  refine met_s (cc := cX3_sharedBy) (maxL := 5) (ret := (some .int)) (own := RX3) (by decide) rfl rfl (Nat.le_of_ble_eq_true rfl) ?_
  intro p e s m below meth c S hr hlocks ls hl
  obtain ⟨hx, hb, hml, hown, hts⟩ := id S
  have hl : lv_has ls 5 [(0, .long (lN (be8 u))), (2, .long (lN (be8 v)))] := hl
  refine lv_iconst (v := nI (0)) hx hb dX3_sharedBy_0 (by decide) ?_
  refine lv_istore (lv' := [(4, .int (nI (0))), (0, .long (lN (be8 u))), (2, .long (lN (be8 v)))]) hx hb dX3_sharedBy_1 hl (by decide) rfl (fun ls hl => ?_)
  have lp_3 : ∀ (j_3 : Nat) (i : Nat), (i ≤ 7) → (∀ k, k < i → bsg u k ≠ 0 ∧ bsg u k = bsg v k) → (7 - i) < j_3 → ∀ ls : Array Slot, lv_has ls 5 [(0, .long (lN (be8 u))), (2, .long (lN (be8 v))), (4, .int (nI (i)))] → W p l e rm_X3_sharedBy s m ([.long (lN (be8 u)), .long (lN (be8 v))] : List Value).toArray below meth c s.heap [] 0 0 (MQ below (Ri (nI (bsh u v))) ([.long (lN (be8 u)), .long (lN (be8 v))] : List Value).toArray s 0 0 (fun _ => False)) (F0 m 3 ls []) := by
    intro j_3
    induction j_3 with
    | zero => intro i _ _ h0; exact absurd h0 (Nat.not_lt_zero _)
    | succ j_3 ih_3 =>
      intro i hi hz hf_3 ls hl
      refine lv_iload hx hb dX3_sharedBy_3 (lv_at hl 2 rfl) ?_
      refine lv_bipush (v := nI (7)) hx hb dX3_sharedBy_5 (by decide) ?_
      refine n_ge (tgt := 40) hx hb dX3_sharedBy_7 (by decide) (by omega) (by omega) (fun c_7 => ?_) (fun c_7 => ?_)
      · refine lv_iload hx hb dX3_sharedBy_40 (lv_at hl 2 rfl) ?_
        exact r_i hx hb hr hlocks (congrArg nI (bfs_eq hi (fun k h => by simp [hz k h]; exact (hz k h).2 ▸ (hz k h).1) (fun h => absurd h (by omega))).symm) dX3_sharedBy_42
      · refine lv_lload_n hx hb dX3_sharedBy_10 rfl (lv_at hl 0 rfl) ?_
        refine lv_iload hx hb dX3_sharedBy_11 (lv_at hl 2 rfl) ?_
        refine c_Si (As := [.long (lN (be8 u)), .int (nI (i))]) (rest := []) S (c_X3_letterAt l u i (by omega)) (va_cwS 2 hts gX3_sharedBy_X3_letterAt rfl rfl rfl (by decide +kernel) ⟨Nat.le_of_ble_eq_true rfl, Nat.le_of_ble_eq_true rfl⟩) rfl hl.1 rfl (Nat.le_of_ble_eq_true rfl) dX3_sharedBy_13 ⟨Nat.le_of_ble_eq_true rfl, Nat.le_of_ble_eq_true rfl⟩ ?_
        refine z_eq (tgt := 40) hx hb dX3_sharedBy_16 (by decide) (Nat.lt_trans (bch_sg _ _) (by decide)) (fun c_16 => ?_) (fun c_16 => ?_)
        · refine lv_iload hx hb dX3_sharedBy_40 (lv_at hl 2 rfl) ?_
          exact r_i hx hb hr hlocks (congrArg nI (bfs_eq hi (fun k h => by simp [hz k h]; exact (hz k h).2 ▸ (hz k h).1) (fun h => by simp [bch_0.mp c_16])).symm) dX3_sharedBy_42
        · refine lv_lload_n hx hb dX3_sharedBy_19 rfl (lv_at hl 0 rfl) ?_
          refine lv_iload hx hb dX3_sharedBy_20 (lv_at hl 2 rfl) ?_
          refine c_Si (As := [.long (lN (be8 u)), .int (nI (i))]) (rest := []) S (c_X3_letterAt l u i (by omega)) (va_cwS 2 hts gX3_sharedBy_X3_letterAt rfl rfl rfl (by decide +kernel) ⟨Nat.le_of_ble_eq_true rfl, Nat.le_of_ble_eq_true rfl⟩) rfl hl.1 rfl (Nat.le_of_ble_eq_true rfl) dX3_sharedBy_22 ⟨Nat.le_of_ble_eq_true rfl, Nat.le_of_ble_eq_true rfl⟩ ?_
          refine lv_lload_n hx hb dX3_sharedBy_25 rfl (lv_at hl 1 rfl) ?_
          refine lv_iload hx hb dX3_sharedBy_26 (lv_at hl 2 rfl) ?_
          refine c_Si (As := [.long (lN (be8 v)), .int (nI (i))]) (rest := [.int (nI (bch (bsg u i)))]) S (c_X3_letterAt l v i (by omega)) (va_cwS 2 hts gX3_sharedBy_X3_letterAt rfl rfl rfl (by decide +kernel) ⟨Nat.le_of_ble_eq_true rfl, Nat.le_of_ble_eq_true rfl⟩) rfl hl.1 rfl (Nat.le_of_ble_eq_true rfl) dX3_sharedBy_28 ⟨Nat.le_of_ble_eq_true rfl, Nat.le_of_ble_eq_true rfl⟩ ?_
          refine n_ne (tgt := 40) hx hb dX3_sharedBy_31 (by decide) (Nat.lt_trans (bch_sg _ _) (by decide)) (Nat.lt_trans (bch_sg _ _) (by decide)) (fun c_31 => ?_) (fun c_31 => ?_)
          · refine lv_iload hx hb dX3_sharedBy_40 (lv_at hl 2 rfl) ?_
            exact r_i hx hb hr hlocks (congrArg nI (bfs_eq hi (fun k h => by simp [hz k h]; exact (hz k h).2 ▸ (hz k h).1) (fun h => by simp [bch_ne c_31])).symm) dX3_sharedBy_42
          · refine lv_iinc (v := nI (i + 1)) (lv' := [(4, .int (nI (i + 1))), (0, .long (lN (be8 u))), (2, .long (lN (be8 v)))]) hx hb dX3_sharedBy_34 hl (k := 2) rfl (inc1 _) (by decide) rfl (fun ls hl => ?_)
            refine lv_goto (tgt := 3) hx hb dX3_sharedBy_37 (by decide) ?_
            exact ih_3 (i + 1) (by omega) (lt_s hz ⟨fun q => by rw [bch_0.mpr q] at c_16; exact absurd c_16 (by decide), bch_inj.mp c_31⟩) (by omega) ls (lv_sub hl [1, 2, 0] rfl)
  exact lp_3 _ (0) (by omega) (fun k h => absurd h (Nat.not_lt_zero k)) (Nat.lt_succ_self _) ls (lv_sub hl [1, 2, 0] rfl)
abbrev rm_X3_begins : Room := { frames := 3, cells := 0, slots := 0, locals := 66 }
set_option maxHeartbeats 4000000 in
set_option maxRecDepth 100000 in
theorem c_X3_begins (l : Launch) (u : Nat) (v : Nat) : Met l yX3_begins wsX3_begins rm_X3_begins (sPc [.long (lN (be8 u)), .long (lN (be8 v))]) (Ri (bI (bsh u v == bln u))) 0 0 (fun _ => False) := by
  refine met_s (cc := cX3_begins) (maxL := 4) (ret := (some .boolean)) (own := RX3) (by decide) rfl rfl (Nat.le_of_ble_eq_true rfl) ?_
  intro p e s m below meth c S hr hlocks ls hl
  obtain ⟨hx, hb, hml, hown, hts⟩ := id S
  have hl : lv_has ls 4 [(0, .long (lN (be8 u))), (2, .long (lN (be8 v)))] := hl
  refine lv_lload_n hx hb dX3_begins_0 rfl (lv_at hl 0 rfl) ?_
  refine lv_lload_n hx hb dX3_begins_1 rfl (lv_at hl 1 rfl) ?_
  refine c_Si (As := [.long (lN (be8 u)), .long (lN (be8 v))]) (rest := []) S (c_X3_sharedBy l u v) (va_cwS 2 hts gX3_begins_X3_sharedBy rfl rfl rfl (by decide +kernel) ⟨Nat.le_of_ble_eq_true rfl, Nat.le_of_ble_eq_true rfl⟩) rfl hl.1 rfl (Nat.le_of_ble_eq_true rfl) dX3_begins_2 ⟨Nat.le_of_ble_eq_true rfl, Nat.le_of_ble_eq_true rfl⟩ ?_
  refine lv_lload_n hx hb dX3_begins_5 rfl (lv_at hl 0 rfl) ?_
  refine c_Si (As := [.long (lN (be8 u))]) (rest := [.int (nI (bsh u v))]) S (c_X3_lengthOf l u) (va_cwS 1 hts gX3_begins_X3_lengthOf rfl rfl rfl (by decide +kernel) ⟨Nat.le_of_ble_eq_true rfl, Nat.le_of_ble_eq_true rfl⟩) rfl hl.1 rfl (Nat.le_of_ble_eq_true rfl) dX3_begins_6 ⟨Nat.le_of_ble_eq_true rfl, Nat.le_of_ble_eq_true rfl⟩ ?_
  refine n_ne (tgt := 16) hx hb dX3_begins_9 (by decide) (Nat.lt_of_le_of_lt (bsh_le _ _) (by decide)) (Nat.lt_of_le_of_lt (bln_le _) (by decide)) (fun c_9 => ?_) (fun c_9 => ?_)
  · refine lv_iconst (v := nI (0)) hx hb dX3_begins_16 (by decide) ?_
    exact r_z (x := false) hx hb hr hlocks rfl (by simp [c_9]) dX3_begins_17
  · refine lv_iconst (v := nI (1)) hx hb dX3_begins_12 (by decide) ?_
    refine lv_goto (tgt := 17) hx hb dX3_begins_13 (by decide) ?_
    exact r_z (x := true) hx hb hr hlocks rfl (by simp [c_9]) dX3_begins_17
abbrev rm_X3_differences : Room := { frames := 2, cells := 0, slots := 0, locals := 42 }
set_option maxHeartbeats 4000000 in
set_option maxRecDepth 100000 in
theorem c_X3_differences (l : Launch) (u : Nat) (v : Nat) : Met l yX3_differences wsX3_differences rm_X3_differences (sPc [.long (lN (be8 u)), .long (lN (be8 v))]) (Ri (nI (fb_ct (fun k => bsg u k != bsg v k) 7))) 0 0 (fun _ => False) := by
  refine met_s (cc := cX3_differences) (maxL := 6) (ret := (some .int)) (own := RX3) (by decide) rfl rfl (Nat.le_of_ble_eq_true rfl) ?_
  intro p e s m below meth c S hr hlocks ls hl
  obtain ⟨hx, hb, hml, hown, hts⟩ := id S
  have hl : lv_has ls 6 [(0, .long (lN (be8 u))), (2, .long (lN (be8 v)))] := hl
  refine lv_iconst (v := nI (0)) hx hb dX3_differences_0 (by decide) ?_
  refine lv_istore (lv' := [(4, .int (nI (0))), (0, .long (lN (be8 u))), (2, .long (lN (be8 v)))]) hx hb dX3_differences_1 hl (by decide) rfl (fun ls hl => ?_)
  refine lv_iconst (v := nI (0)) hx hb dX3_differences_3 (by decide) ?_
  refine lv_istore (lv' := [(5, .int (nI (0))), (4, .int (nI (0))), (0, .long (lN (be8 u))), (2, .long (lN (be8 v)))]) hx hb dX3_differences_4 hl (by decide) rfl (fun ls hl => ?_)
  have lp_6 : ∀ (j_6 : Nat) (i : Nat), (i ≤ 7) → (7 - i) < j_6 → ∀ ls : Array Slot, lv_has ls 6 [(0, .long (lN (be8 u))), (2, .long (lN (be8 v))), (4, .int (nI (fb_ct (fun k => bsg u k != bsg v k) i))), (5, .int (nI (i)))] → W p l e rm_X3_differences s m ([.long (lN (be8 u)), .long (lN (be8 v))] : List Value).toArray below meth c s.heap [] 0 0 (MQ below (Ri (nI (fb_ct (fun k => bsg u k != bsg v k) 7))) ([.long (lN (be8 u)), .long (lN (be8 v))] : List Value).toArray s 0 0 (fun _ => False)) (F0 m 6 ls []) := by
    intro j_6
    induction j_6 with
    | zero => intro i _ h0; exact absurd h0 (Nat.not_lt_zero _)
    | succ j_6 ih_6 =>
      intro i hi hf_6 ls hl
      refine lv_iload hx hb dX3_differences_6 (lv_at hl 3 rfl) ?_
      refine lv_bipush (v := nI (7)) hx hb dX3_differences_8 (by decide) ?_
      refine n_ge (tgt := 37) hx hb dX3_differences_10 (by decide) (by omega) (by omega) (fun c_10 => ?_) (fun c_10 => ?_)
      · refine lv_iload hx hb dX3_differences_37 (lv_at hl 2 rfl) ?_
        exact r_i hx hb hr hlocks (by rw [show i = 7 by omega]) dX3_differences_39
      · refine lv_lload_n hx hb dX3_differences_13 rfl (lv_at hl 0 rfl) ?_
        refine lv_iload hx hb dX3_differences_14 (lv_at hl 3 rfl) ?_
        refine c_Si (As := [.long (lN (be8 u)), .int (nI (i))]) (rest := []) S (c_X3_letterAt l u i (by omega)) (va_cwS 2 hts gX3_differences_X3_letterAt rfl rfl rfl (by decide +kernel) ⟨Nat.le_of_ble_eq_true rfl, Nat.le_of_ble_eq_true rfl⟩) rfl hl.1 rfl (Nat.le_of_ble_eq_true rfl) dX3_differences_16 ⟨Nat.le_of_ble_eq_true rfl, Nat.le_of_ble_eq_true rfl⟩ ?_
        refine lv_lload_n hx hb dX3_differences_19 rfl (lv_at hl 1 rfl) ?_
        refine lv_iload hx hb dX3_differences_20 (lv_at hl 3 rfl) ?_
        refine c_Si (As := [.long (lN (be8 v)), .int (nI (i))]) (rest := [.int (nI (bch (bsg u i)))]) S (c_X3_letterAt l v i (by omega)) (va_cwS 2 hts gX3_differences_X3_letterAt rfl rfl rfl (by decide +kernel) ⟨Nat.le_of_ble_eq_true rfl, Nat.le_of_ble_eq_true rfl⟩) rfl hl.1 rfl (Nat.le_of_ble_eq_true rfl) dX3_differences_22 ⟨Nat.le_of_ble_eq_true rfl, Nat.le_of_ble_eq_true rfl⟩ ?_
        refine n_eq (tgt := 31) hx hb dX3_differences_25 (by decide) (Nat.lt_trans (bch_sg _ _) (by decide)) (Nat.lt_trans (bch_sg _ _) (by decide)) (fun c_25 => ?_) (fun c_25 => ?_)
        · refine lv_iinc (v := nI (i + 1)) (lv' := [(5, .int (nI (i + 1))), (0, .long (lN (be8 u))), (2, .long (lN (be8 v))), (4, .int (nI (fb_ct (fun k => bsg u k != bsg v k) i)))]) hx hb dX3_differences_31 hl (k := 3) rfl (inc1 _) (by decide) rfl (fun ls hl => ?_)
          refine lv_goto (tgt := 6) hx hb dX3_differences_34 (by decide) ?_
          exact ih_6 (i + 1) (by omega) (by omega) ls (lv_cg (l := [(0, .long (lN (be8 u))), (2, .long (lN (be8 v))), (4, .int (nI (fb_ct (fun k => bsg u k != bsg v k) i))), (5, .int (nI (i + 1)))]) (lv_sub hl [1, 2, 3, 0] rfl) (by rw [ct_n (p := (fun k => bsg u k != bsg v k)) (n := i) (by simp [bch_inj.mp c_25])]))
        · refine lv_iinc (v := nI ((fb_ct (fun k => bsg u k != bsg v k) i) + 1)) (lv' := [(4, .int (nI ((fb_ct (fun k => bsg u k != bsg v k) i) + 1))), (0, .long (lN (be8 u))), (2, .long (lN (be8 v))), (5, .int (nI (i)))]) hx hb dX3_differences_28 hl (k := 2) rfl (inc1 _) (by decide) rfl (fun ls hl => ?_)
          refine lv_iinc (v := nI (i + 1)) (lv' := [(5, .int (nI (i + 1))), (4, .int (nI ((fb_ct (fun k => bsg u k != bsg v k) i) + 1))), (0, .long (lN (be8 u))), (2, .long (lN (be8 v)))]) hx hb dX3_differences_31 hl (k := 3) rfl (inc1 _) (by decide) rfl (fun ls hl => ?_)
          refine lv_goto (tgt := 6) hx hb dX3_differences_34 (by decide) ?_
          exact ih_6 (i + 1) (by omega) (by omega) ls (lv_cg (l := [(0, .long (lN (be8 u))), (2, .long (lN (be8 v))), (4, .int (nI ((fb_ct (fun k => bsg u k != bsg v k) i) + 1))), (5, .int (nI (i + 1)))]) (lv_sub hl [2, 3, 1, 0] rfl) (by rw [ct_y (p := (fun k => bsg u k != bsg v k)) (n := i) (by simp [bch_ne c_25])]))
  exact lp_6 _ (0) (by omega) (Nat.lt_succ_self _) ls (lv_sub hl [2, 3, 1, 0] rfl)
end
section
/-! the dictionary's cells, and what its methods answer -/
abbrev wd (q0 q1 q2 q3 : Nat) (cI cJ : ClassId) (w : Nat → Int64) (o d : Nat → Int32) (n : Nat) : va_W := [(q0, .inr (0, [.ref q1, .ref q2, .ref q3, .int (nI n)])), (q1, .inl (cJ, 40, .inr (.inl w))), (q2, .inl (cI, 40, .inl o)), (q3, .inl (cI, 40, .inl d))]
def bDD (w : Nat → Int64) (o d : Nat → Int32) (n : Nat) (V O E : Nat → Nat) : Prop := n ≤ 40 ∧ ∀ k, k < n → w k = lN (be8 (V k)) ∧ bwf (V k) ∧ 0 < V k ∧ o k = nI (O k) ∧ O k ≤ 99 ∧ d k = nI (E k) ∧ E k ≤ 8
def bwa (V : Nat → Nat) (n k : Nat) : Nat := if k < n then be8 (V k) else 0
def boa (O : Nat → Nat) (n k : Nat) : Nat := if k < n then O k else 0
def bpl (V : Nat → Nat) (n v : Nat) : Nat := bfs (fun k => decide (v ≤ V k)) n
/-- how often a word is there -/
def bof (V O : Nat → Nat) (n v : Nat) : Nat := if bpl V n v < n ∧ V (bpl V n v) = v then O (bpl V n v) else 0
/-- DEPTH, out of the words' depths -/
def bdp (V E : Nat → Nat) (n v : Nat) : Nat := bmx (fun k => min (bsh (V k) v + 1) (E k)) n
/-- how many words share g letters with v -/
def bsc (V : Nat → Nat) (n v g : Nat) : Nat := fb_ct (fun k => decide (g ≤ bsh (V k) v)) n
def bbd (V : Nat → Nat) (n v dep bnd : Nat) : Nat := dep + bfs (fun t => decide (bsc V n v (dep + t) ≤ bnd)) (bln v + 1 - dep)
def bmd (V : Nat → Nat) (n v few : Nat) : Nat → Nat
  | 0 => 0
  | h + 1 => if bsc V n v h ≤ few then bmd V n v few h else h + 1
def nM (x : Nat) : Int32 := nI x - 1
def bah (V : Nat → Nat) (k : Nat) : Nat := if k = 0 then 0 else bsh (V (k - 1)) (V k) + 1
def bct (V E : Nat → Nat) (k : Nat) : Bool := decide (E k ≤ bln (V k))
def bop (V E : Nat → Nat) (k : Nat) : Bool := bct V E k && decide (bah V k ≤ E k)
def bopt (n i : Nat) : Int32 := if i < n then nI i else -1
def bfh (V E : Nat → Nat) : Nat → Nat × Nat
  | 0 => (0, 0)
  | k + 1 => if bct V E k then (max (bfh V E k).1 (if bop V E k then 1 else (bfh V E k).2 + 1), if bop V E k then 1 else (bfh V E k).2 + 1) else bfh V E k
def bmf (V O : Nat → Nat) (n u j : Nat) : Nat := fb_ct (fun i => (decide (O j < O i) || (O i == O j && decide (i < j))) && (bsh u (V i) == bln u)) n
theorem nM_0 : nM 0 = -1 := by decide
theorem nM_s (x : Nat) : nM (x + 1) = nI x := nI_pred x
theorem nM_1 (x : Nat) : nM x + 1 = nI x := by unfold nM; exact Int32.sub_add_cancel _ _
theorem nM_toInt {x : Nat} (h : x < 2 ^ 30) : (nM x).toInt = (x : Int) - 1 := by
  have := pk_sub_toInt (a := x) (b := 1) h (by decide)
  exact this
theorem nM_lt {x s : Nat} (hx : x < 2 ^ 30) (hs : s < 2 ^ 30) : nM x < nI s ↔ x < s + 1 := by
  rw [Int32.lt_iff_toInt_lt, nM_toInt hx, nI_toInt (by omega)]
  omega
theorem nM_ge {x s : Nat} (hx : x < 2 ^ 30) (hs : s < 2 ^ 30) : nI s ≤ nM x ↔ s + 1 ≤ x := by
  rw [Int32.le_iff_toInt_le, nM_toInt hx, nI_toInt (by omega)]
  omega
theorem nmaxm {x s : Nat} (hx : x < 2 ^ 30) (hs : s < 2 ^ 30) : (if nM x < nI s then nI s else nM x) = nM (max x (s + 1)) := by
  by_cases h : x < s + 1
  · rw [if_pos ((nM_lt hx hs).mpr h), Nat.max_eq_right (Nat.le_of_lt h), nM_s]
  · rw [if_neg (fun q => h ((nM_lt hx hs).mp q)), Nat.max_eq_left (Nat.not_lt.mp h)]
theorem nmaxs {a b : Nat} (ha : a < 2 ^ 30) (hb : b < 2 ^ 30) : (if nI 0 < nI a - nI b then nI a - nI b else nI 0) = nI (a - b) := by
  rcases Nat.lt_or_ge b a with h | h
  · rw [pk_sub (Nat.le_of_lt h), if_pos (nI_lt (by omega) (by omega))]
  · rw [show a - b = 0 by omega]
    refine if_neg (fun q => ?_)
    rw [Int32.lt_iff_toInt_lt, pk_sub_toInt ha hb, nI_toInt (by decide)] at q
    omega
theorem bmx_le {f : Nat → Nat} {c : Nat} : ∀ {n : Nat}, (∀ k, k < n → f k ≤ c) → bmx f n ≤ c
  | 0, _ => Nat.zero_le _
  | n + 1, h => Nat.max_le.mpr ⟨bmx_le (fun k hk => h k (Nat.lt_succ_of_lt hk)), h n (Nat.lt_succ_self n)⟩
theorem bmx_ge {f : Nat → Nat} : ∀ {n k : Nat}, k < n → f k ≤ bmx f n
  | 0, k, h => absurd h (Nat.not_lt_zero k)
  | n + 1, k, h => by
    rcases Nat.lt_or_ge k n with q | q
    · exact Nat.le_trans (bmx_ge q) (Nat.le_max_left _ _)
    · rw [show k = n by omega]; exact Nat.le_max_right _ _
theorem bah_le (V : Nat → Nat) (k : Nat) : bah V k ≤ 8 := by
  unfold bah
  split
  · omega
  · have := bsh_le (V (k - 1)) (V k); omega
theorem bsc_le (V : Nat → Nat) (n v g : Nat) : bsc V n v g ≤ n := fb_ct_le _ n
theorem bpl_le (V : Nat → Nat) (n v : Nat) : bpl V n v ≤ n := bfs_le _ n
theorem bdp_le {V E : Nat → Nat} {n v : Nat} : bdp V E n v ≤ 8 := bmx_le (fun k _ => by have := bsh_le (V k) v; omega)
theorem bfh_le (V E : Nat → Nat) : ∀ k, (bfh V E k).1 ≤ k ∧ (bfh V E k).2 ≤ k
  | 0 => ⟨Nat.le_refl 0, Nat.le_refl 0⟩
  | k + 1 => by
    have ih := bfh_le V E k
    unfold bfh
    split
    · constructor
      · show max _ _ ≤ k + 1
        split <;> omega
      · show (if bop V E k then 1 else (bfh V E k).2 + 1) ≤ k + 1
        split <;> omega
    · exact ⟨Nat.le_succ_of_le ih.1, Nat.le_succ_of_le ih.2⟩
theorem sm_s (f : Nat → Nat) (n : Nat) : fb_sm f n + f n = fb_sm f (n + 1) := rfl
end
section
theorem bwa_63 (V : Nat → Nat) (n k : Nat) : bwa V n k < 2 ^ 63 := by
  unfold bwa
  split
  · exact be8_63 _
  · decide
theorem be8_0 : be8 0 = 0 := rfl
theorem bof_y {V O : Nat → Nat} {n v : Nat} (hV : ∀ k, k < n → V k < 27 ^ 7) (hp : ∀ k, k < n → 0 < V k) (hv : v < 27 ^ 7) (h : bwa V n (bpl V n v) = be8 v) : boa O n (bpl V n v) = bof V O n v := by
  unfold boa bof
  unfold bwa at h
  split
  · next h1 =>
    rw [if_pos h1] at h
    rw [if_pos ⟨h1, (be8_eqI (hV _ h1) hv).mp h⟩]
  · next h1 => rw [if_neg (fun q => h1 q.1)]
theorem bof_n {V O : Nat → Nat} {n v : Nat} (hV : ∀ k, k < n → V k < 27 ^ 7) (hp : ∀ k, k < n → 0 < V k) (hv : v < 27 ^ 7) (h : bwa V n (bpl V n v) ≠ be8 v) : 0 = bof V O n v := by
  unfold bof
  rw [if_neg]
  intro q
  apply h
  unfold bwa
  rw [if_pos q.1, q.2]
theorem bmd_s {V : Nat → Nat} {n v b t : Nat} (h : 0 < t) (h2 : bsc V n v (t - 1) ≤ b) : bmd V n v b t = bmd V n v b (t - 1) := by
  obtain ⟨k, rfl⟩ : ∃ k, t = k + 1 := ⟨t - 1, by omega⟩
  exact if_pos h2
theorem bmd_e {V : Nat → Nat} {n v b t : Nat} (h : 0 < t) (h2 : b < bsc V n v (t - 1)) : bmd V n v b t = t := by
  obtain ⟨k, rfl⟩ : ∃ k, t = k + 1 := ⟨t - 1, by omega⟩
  exact if_neg (Nat.not_le.mpr h2)
abbrev rm_X0_size : Room := { frames := 0, cells := 0, slots := 0, locals := 0 }
set_option maxHeartbeats 4000000 in
set_option maxRecDepth 100000 in
theorem c_X0_size (l : Launch) (dC : Nat → ClassId) (dI : Nat → Nat → Nat) (cI cJ cZ : ClassId) (q0 q1 q2 q3 : Nat) (w : Nat → Int64) (o d : Nat → Int32) (n : Nat) (V O E : Nat → Nat) (hD : bDD w o d n V O E) : Met l yX0_size wsX0_size rm_X0_size (rPc (dC, dI) (tysA cI cJ cZ) (wd q0 q1 q2 q3 cI cJ w o d n) [.ref (q0)]) (Ri (nI (n))) 0 0 (fun _ => False) := by
  refine met_r (cc := cX0_size) (maxL := 1) (ret := (some .int)) (own := RX0) (by decide) rfl rfl (Nat.le_of_ble_eq_true rfl) ?_
  intro p e s m below meth c S hr hlocks hP hK ls hl
  obtain ⟨hx, hb, hml, hown, hts⟩ := id S
  have hl : lv_has ls 1 [(0, .ref (q0))] := hl
  have hi0 : ∀ w ∈ wsX00, w ∈ wsX0_size := fun _ h => List.mem_cons_of_mem _ (List.mem_append_right _ h)
  obtain ⟨hn, hk⟩ := id hD
  refine lv_aload_n hx hb dX0_size_0 rfl (lv_at hl 0 rfl) ?_
  refine va_get (D := (dC, dI)) (ci := 0) (v := .int (nI (n))) (C := RX0) (T := TX0) (N := 4) hx hb hts hi0 hown hK hP 0 rfl rfl 3 (by decide) (hts (.fieldLink RX0 22 "BurstWords$Dictionary" "size" "I") (by decide +kernel)) (fun _ h9 => h9) rfl dX0_size_1 ?_
  exact r_i hx hb hr hlocks rfl dX0_size_4
abbrev rm_X0_has : Room := { frames := 0, cells := 0, slots := 0, locals := 0 }
set_option maxHeartbeats 4000000 in
set_option maxRecDepth 100000 in
theorem c_X0_has (l : Launch) (dC : Nat → ClassId) (dI : Nat → Nat → Nat) (cI cJ cZ : ClassId) (q0 q1 q2 q3 : Nat) (w : Nat → Int64) (o d : Nat → Int32) (n : Nat) (V O E : Nat → Nat) (hD : bDD w o d n V O E) (k : Nat) (hk31 : k < 2 ^ 31) : Met l yX0_has wsX0_has rm_X0_has (rPc (dC, dI) (tysA cI cJ cZ) (wd q0 q1 q2 q3 cI cJ w o d n) [.ref (q0), .int (nI (k))]) (Ri (bI (decide (k < n)))) 0 0 (fun _ => False) := by
  refine met_r (cc := cX0_has) (maxL := 2) (ret := (some .boolean)) (own := RX0) (by decide) rfl rfl (Nat.le_of_ble_eq_true rfl) ?_
  intro p e s m below meth c S hr hlocks hP hK ls hl
  obtain ⟨hx, hb, hml, hown, hts⟩ := id S
  have hl : lv_has ls 2 [(0, .ref (q0)), (1, .int (nI (k)))] := hl
  have hi0 : ∀ w ∈ wsX00, w ∈ wsX0_has := fun _ h => List.mem_cons_of_mem _ (List.mem_append_right _ h)
  obtain ⟨hn, hk⟩ := id hD
  refine lv_iload_n hx hb dX0_has_0 rfl (lv_at hl 1 rfl) ?_
  refine z_lt (tgt := 22) hx hb dX0_has_1 (by decide) (by omega) ?_
  refine lv_iload_n hx hb dX0_has_4 rfl (lv_at hl 1 rfl) ?_
  refine lv_aload_n hx hb dX0_has_5 rfl (lv_at hl 0 rfl) ?_
  refine va_get (D := (dC, dI)) (ci := 0) (v := .int (nI (n))) (C := RX0) (T := TX0) (N := 4) hx hb hts hi0 hown hK hP 0 rfl rfl 3 (by decide) (hts (.fieldLink RX0 22 "BurstWords$Dictionary" "size" "I") (by decide +kernel)) (fun _ h9 => h9) rfl dX0_has_6 ?_
  refine n_ge (tgt := 22) hx hb dX0_has_9 (by decide) (by omega) (by omega) (fun c_9 => ?_) (fun c_9 => ?_)
  · refine lv_iconst (v := nI (0)) hx hb dX0_has_22 (by decide) ?_
    exact r_z (x := false) hx hb hr hlocks rfl (by simp; omega) dX0_has_23
  · refine lv_iload_n hx hb dX0_has_12 rfl (lv_at hl 1 rfl) ?_
    refine lv_bipush (v := nI (40)) hx hb dX0_has_13 (by decide) ?_
    refine n_ge (tgt := 22) hx hb dX0_has_15 (by decide) (by omega) (by omega) (fun c_15 => ?_) (fun c_15 => ?_)
    · exact absurd c_15 (by omega)
    · refine lv_iconst (v := nI (1)) hx hb dX0_has_18 (by decide) ?_
      refine lv_goto (tgt := 23) hx hb dX0_has_19 (by decide) ?_
      exact r_z (x := true) hx hb hr hlocks rfl (by simp; omega) dX0_has_23
abbrev rm_X0_wordAt : Room := { frames := 1, cells := 0, slots := 0, locals := 21 }
set_option maxHeartbeats 4000000 in
set_option maxRecDepth 100000 in
theorem c_X0_wordAt_in (l : Launch) (dC : Nat → ClassId) (dI : Nat → Nat → Nat) (cI cJ cZ : ClassId) (q0 q1 q2 q3 : Nat) (w : Nat → Int64) (o d : Nat → Int32) (n : Nat) (V O E : Nat → Nat) (hD : bDD w o d n V O E) (k : Nat) (hkn : k < n) : Met l yX0_wordAt wsX0_wordAt rm_X0_wordAt (rPc (dC, dI) (tysA cI cJ cZ) (wd q0 q1 q2 q3 cI cJ w o d n) [.ref (q0), .int (nI (k))]) (Rl (lN (be8 (V k)))) 0 0 (fun _ => False) := by
  refine met_r (cc := cX0_wordAt) (maxL := 2) (ret := (some .long)) (own := RX0) (by decide) rfl rfl (Nat.le_of_ble_eq_true rfl) ?_
  intro p e s m below meth c S hr hlocks hP hK ls hl
  obtain ⟨hx, hb, hml, hown, hts⟩ := id S
  have hl : lv_has ls 2 [(0, .ref (q0)), (1, .int (nI (k)))] := hl
  have hi0 : ∀ w ∈ wsX00, w ∈ wsX0_wordAt := fun _ h => List.mem_cons_of_mem _ (List.mem_append_right _ h)
  obtain ⟨hn, hk⟩ := id hD
  refine lv_aload_n hx hb dX0_wordAt_0 rfl (lv_at hl 0 rfl) ?_
  refine lv_iload_n hx hb dX0_wordAt_1 rfl (lv_at hl 1 rfl) ?_
  refine c_Vi (As := [.int (nI (k))]) (rest := []) (ci := 0) (q0 := 0) S (c_X0_has l dC dI cI cJ cZ q0 q1 q2 q3 w o d n V O E hD k (by omega)) (cwV 1 hts gX0_wordAt_X0_has rfl rfl rfl (by decide +kernel) ⟨Nat.le_of_ble_eq_true rfl, Nat.le_of_ble_eq_true rfl⟩) hK hP rfl rfl rfl hl.1 rfl (Nat.le_of_ble_eq_true rfl) dX0_wordAt_2 ⟨Nat.le_of_ble_eq_true rfl, Nat.le_of_ble_eq_true rfl⟩ ?_
  refine b_eq (tgt := 17) hx hb dX0_wordAt_5 (by decide) (fun c_5 => ?_) (fun c_5 => ?_)
  · exact absurd hkn (by simpa using c_5)
  · refine lv_aload_n hx hb dX0_wordAt_8 rfl (lv_at hl 0 rfl) ?_
    refine va_get (D := (dC, dI)) (ci := 0) (v := .ref (q1)) (C := RX0) (T := TX0) (N := 4) hx hb hts hi0 hown hK hP 0 rfl rfl 0 (by decide) (hts (.fieldLink RX0 9 "BurstWords$Dictionary" "words" "[J") (by decide +kernel)) (fun _ h9 => h9) rfl dX0_wordAt_9 ?_
    refine lv_iload_n hx hb dX0_wordAt_12 rfl (lv_at hl 1 rfl) ?_
    refine g_l hx hb hK hP 1 1 rfl rfl (k := k) (by omega) (by decide) dX0_wordAt_13 (v := lN (be8 (V k))) (hk _ (by omega)).1 ?_
    refine lv_goto (tgt := 18) hx hb dX0_wordAt_14 (by decide) ?_
    exact r_l hx hb hr hlocks rfl dX0_wordAt_18
set_option maxHeartbeats 4000000 in
set_option maxRecDepth 100000 in
theorem c_X0_wordAt (l : Launch) (dC : Nat → ClassId) (dI : Nat → Nat → Nat) (cI cJ cZ : ClassId) (q0 q1 q2 q3 : Nat) (w : Nat → Int64) (o d : Nat → Int32) (n : Nat) (V O E : Nat → Nat) (hD : bDD w o d n V O E) (k : Nat) (hk31 : k < 2 ^ 31) : Met l yX0_wordAt wsX0_wordAt rm_X0_wordAt (rPc (dC, dI) (tysA cI cJ cZ) (wd q0 q1 q2 q3 cI cJ w o d n) [.ref (q0), .int (nI (k))]) (Rl (lN (bwa V n k))) 0 0 (fun _ => False) := by
  refine met_r (cc := cX0_wordAt) (maxL := 2) (ret := (some .long)) (own := RX0) (by decide) rfl rfl (Nat.le_of_ble_eq_true rfl) ?_
  intro p e s m below meth c S hr hlocks hP hK ls hl
  obtain ⟨hx, hb, hml, hown, hts⟩ := id S
  have hl : lv_has ls 2 [(0, .ref (q0)), (1, .int (nI (k)))] := hl
  have hi0 : ∀ w ∈ wsX00, w ∈ wsX0_wordAt := fun _ h => List.mem_cons_of_mem _ (List.mem_append_right _ h)
  obtain ⟨hn, hk⟩ := id hD
  refine lv_aload_n hx hb dX0_wordAt_0 rfl (lv_at hl 0 rfl) ?_
  refine lv_iload_n hx hb dX0_wordAt_1 rfl (lv_at hl 1 rfl) ?_
  refine c_Vi (As := [.int (nI (k))]) (rest := []) (ci := 0) (q0 := 0) S (c_X0_has l dC dI cI cJ cZ q0 q1 q2 q3 w o d n V O E hD k (by omega)) (cwV 1 hts gX0_wordAt_X0_has rfl rfl rfl (by decide +kernel) ⟨Nat.le_of_ble_eq_true rfl, Nat.le_of_ble_eq_true rfl⟩) hK hP rfl rfl rfl hl.1 rfl (Nat.le_of_ble_eq_true rfl) dX0_wordAt_2 ⟨Nat.le_of_ble_eq_true rfl, Nat.le_of_ble_eq_true rfl⟩ ?_
  refine b_eq (tgt := 17) hx hb dX0_wordAt_5 (by decide) (fun c_5 => ?_) (fun c_5 => ?_)
  · refine lv_lconst (v := lN (0)) hx hb dX0_wordAt_17 rfl ?_
    exact r_l hx hb hr hlocks (congrArg lN (if_neg (by simpa using c_5)).symm) dX0_wordAt_18
  · refine lv_aload_n hx hb dX0_wordAt_8 rfl (lv_at hl 0 rfl) ?_
    refine va_get (D := (dC, dI)) (ci := 0) (v := .ref (q1)) (C := RX0) (T := TX0) (N := 4) hx hb hts hi0 hown hK hP 0 rfl rfl 0 (by decide) (hts (.fieldLink RX0 9 "BurstWords$Dictionary" "words" "[J") (by decide +kernel)) (fun _ h9 => h9) rfl dX0_wordAt_9 ?_
    refine lv_iload_n hx hb dX0_wordAt_12 rfl (lv_at hl 1 rfl) ?_
    refine g_l hx hb hK hP 1 1 rfl rfl (k := k) (by simp at c_5; omega) (by decide) dX0_wordAt_13 (v := lN (be8 (V k))) (hk k (by simpa using c_5)).1 ?_
    refine lv_goto (tgt := 18) hx hb dX0_wordAt_14 (by decide) ?_
    exact r_l hx hb hr hlocks (congrArg lN (if_pos (by simpa using c_5)).symm) dX0_wordAt_18
abbrev rm_X0_oftenAt : Room := { frames := 1, cells := 0, slots := 0, locals := 21 }
set_option maxHeartbeats 4000000 in
set_option maxRecDepth 100000 in
theorem c_X0_oftenAt_in (l : Launch) (dC : Nat → ClassId) (dI : Nat → Nat → Nat) (cI cJ cZ : ClassId) (q0 q1 q2 q3 : Nat) (w : Nat → Int64) (o d : Nat → Int32) (n : Nat) (V O E : Nat → Nat) (hD : bDD w o d n V O E) (k : Nat) (hkn : k < n) : Met l yX0_oftenAt wsX0_oftenAt rm_X0_oftenAt (rPc (dC, dI) (tysA cI cJ cZ) (wd q0 q1 q2 q3 cI cJ w o d n) [.ref (q0), .int (nI (k))]) (Ri (nI (O k))) 0 0 (fun _ => False) := by
  refine met_r (cc := cX0_oftenAt) (maxL := 2) (ret := (some .int)) (own := RX0) (by decide) rfl rfl (Nat.le_of_ble_eq_true rfl) ?_
  intro p e s m below meth c S hr hlocks hP hK ls hl
  obtain ⟨hx, hb, hml, hown, hts⟩ := id S
  have hl : lv_has ls 2 [(0, .ref (q0)), (1, .int (nI (k)))] := hl
  have hi0 : ∀ w ∈ wsX00, w ∈ wsX0_oftenAt := fun _ h => List.mem_cons_of_mem _ (List.mem_append_right _ h)
  obtain ⟨hn, hk⟩ := id hD
  refine lv_aload_n hx hb dX0_oftenAt_0 rfl (lv_at hl 0 rfl) ?_
  refine lv_iload_n hx hb dX0_oftenAt_1 rfl (lv_at hl 1 rfl) ?_
  refine c_Vi (As := [.int (nI (k))]) (rest := []) (ci := 0) (q0 := 0) S (c_X0_has l dC dI cI cJ cZ q0 q1 q2 q3 w o d n V O E hD k (by omega)) (cwV 1 hts gX0_oftenAt_X0_has rfl rfl rfl (by decide +kernel) ⟨Nat.le_of_ble_eq_true rfl, Nat.le_of_ble_eq_true rfl⟩) hK hP rfl rfl rfl hl.1 rfl (Nat.le_of_ble_eq_true rfl) dX0_oftenAt_2 ⟨Nat.le_of_ble_eq_true rfl, Nat.le_of_ble_eq_true rfl⟩ ?_
  refine b_eq (tgt := 17) hx hb dX0_oftenAt_5 (by decide) (fun c_5 => ?_) (fun c_5 => ?_)
  · exact absurd hkn (by simpa using c_5)
  · refine lv_aload_n hx hb dX0_oftenAt_8 rfl (lv_at hl 0 rfl) ?_
    refine va_get (D := (dC, dI)) (ci := 0) (v := .ref (q2)) (C := RX0) (T := TX0) (N := 4) hx hb hts hi0 hown hK hP 0 rfl rfl 1 (by decide) (hts (.fieldLink RX0 15 "BurstWords$Dictionary" "often" "[I") (by decide +kernel)) (fun _ h9 => h9) rfl dX0_oftenAt_9 ?_
    refine lv_iload_n hx hb dX0_oftenAt_12 rfl (lv_at hl 1 rfl) ?_
    refine g_i hx hb hK hP 2 0 rfl rfl (k := k) (by omega) (by decide) dX0_oftenAt_13 (v := nI (O k)) (hk _ (by omega)).2.2.2.1 ?_
    refine lv_goto (tgt := 18) hx hb dX0_oftenAt_14 (by decide) ?_
    exact r_i hx hb hr hlocks rfl dX0_oftenAt_18
set_option maxHeartbeats 4000000 in
set_option maxRecDepth 100000 in
theorem c_X0_oftenAt (l : Launch) (dC : Nat → ClassId) (dI : Nat → Nat → Nat) (cI cJ cZ : ClassId) (q0 q1 q2 q3 : Nat) (w : Nat → Int64) (o d : Nat → Int32) (n : Nat) (V O E : Nat → Nat) (hD : bDD w o d n V O E) (k : Nat) (hk31 : k < 2 ^ 31) : Met l yX0_oftenAt wsX0_oftenAt rm_X0_oftenAt (rPc (dC, dI) (tysA cI cJ cZ) (wd q0 q1 q2 q3 cI cJ w o d n) [.ref (q0), .int (nI (k))]) (Ri (nI (boa O n k))) 0 0 (fun _ => False) := by
  refine met_r (cc := cX0_oftenAt) (maxL := 2) (ret := (some .int)) (own := RX0) (by decide) rfl rfl (Nat.le_of_ble_eq_true rfl) ?_
  intro p e s m below meth c S hr hlocks hP hK ls hl
  obtain ⟨hx, hb, hml, hown, hts⟩ := id S
  have hl : lv_has ls 2 [(0, .ref (q0)), (1, .int (nI (k)))] := hl
  have hi0 : ∀ w ∈ wsX00, w ∈ wsX0_oftenAt := fun _ h => List.mem_cons_of_mem _ (List.mem_append_right _ h)
  obtain ⟨hn, hk⟩ := id hD
  refine lv_aload_n hx hb dX0_oftenAt_0 rfl (lv_at hl 0 rfl) ?_
  refine lv_iload_n hx hb dX0_oftenAt_1 rfl (lv_at hl 1 rfl) ?_
  refine c_Vi (As := [.int (nI (k))]) (rest := []) (ci := 0) (q0 := 0) S (c_X0_has l dC dI cI cJ cZ q0 q1 q2 q3 w o d n V O E hD k (by omega)) (cwV 1 hts gX0_oftenAt_X0_has rfl rfl rfl (by decide +kernel) ⟨Nat.le_of_ble_eq_true rfl, Nat.le_of_ble_eq_true rfl⟩) hK hP rfl rfl rfl hl.1 rfl (Nat.le_of_ble_eq_true rfl) dX0_oftenAt_2 ⟨Nat.le_of_ble_eq_true rfl, Nat.le_of_ble_eq_true rfl⟩ ?_
  refine b_eq (tgt := 17) hx hb dX0_oftenAt_5 (by decide) (fun c_5 => ?_) (fun c_5 => ?_)
  · refine lv_iconst (v := nI (0)) hx hb dX0_oftenAt_17 (by decide) ?_
    exact r_i hx hb hr hlocks (congrArg nI (if_neg (by simpa using c_5)).symm) dX0_oftenAt_18
  · refine lv_aload_n hx hb dX0_oftenAt_8 rfl (lv_at hl 0 rfl) ?_
    refine va_get (D := (dC, dI)) (ci := 0) (v := .ref (q2)) (C := RX0) (T := TX0) (N := 4) hx hb hts hi0 hown hK hP 0 rfl rfl 1 (by decide) (hts (.fieldLink RX0 15 "BurstWords$Dictionary" "often" "[I") (by decide +kernel)) (fun _ h9 => h9) rfl dX0_oftenAt_9 ?_
    refine lv_iload_n hx hb dX0_oftenAt_12 rfl (lv_at hl 1 rfl) ?_
    refine g_i hx hb hK hP 2 0 rfl rfl (k := k) (by simp at c_5; omega) (by decide) dX0_oftenAt_13 (v := nI (O k)) (hk k (by simpa using c_5)).2.2.2.1 ?_
    refine lv_goto (tgt := 18) hx hb dX0_oftenAt_14 (by decide) ?_
    exact r_i hx hb hr hlocks (congrArg nI (if_pos (by simpa using c_5)).symm) dX0_oftenAt_18
abbrev rm_X0_depthAt : Room := { frames := 1, cells := 0, slots := 0, locals := 21 }
set_option maxHeartbeats 4000000 in
set_option maxRecDepth 100000 in
theorem c_X0_depthAt_in (l : Launch) (dC : Nat → ClassId) (dI : Nat → Nat → Nat) (cI cJ cZ : ClassId) (q0 q1 q2 q3 : Nat) (w : Nat → Int64) (o d : Nat → Int32) (n : Nat) (V O E : Nat → Nat) (hD : bDD w o d n V O E) (k : Nat) (hkn : k < n) : Met l yX0_depthAt wsX0_depthAt rm_X0_depthAt (rPc (dC, dI) (tysA cI cJ cZ) (wd q0 q1 q2 q3 cI cJ w o d n) [.ref (q0), .int (nI (k))]) (Ri (nI (E k))) 0 0 (fun _ => False) := by
  refine met_r (cc := cX0_depthAt) (maxL := 2) (ret := (some .int)) (own := RX0) (by decide) rfl rfl (Nat.le_of_ble_eq_true rfl) ?_
  intro p e s m below meth c S hr hlocks hP hK ls hl
  obtain ⟨hx, hb, hml, hown, hts⟩ := id S
  have hl : lv_has ls 2 [(0, .ref (q0)), (1, .int (nI (k)))] := hl
  have hi0 : ∀ w ∈ wsX00, w ∈ wsX0_depthAt := fun _ h => List.mem_cons_of_mem _ (List.mem_append_right _ h)
  obtain ⟨hn, hk⟩ := id hD
  refine lv_aload_n hx hb dX0_depthAt_0 rfl (lv_at hl 0 rfl) ?_
  refine lv_iload_n hx hb dX0_depthAt_1 rfl (lv_at hl 1 rfl) ?_
  refine c_Vi (As := [.int (nI (k))]) (rest := []) (ci := 0) (q0 := 0) S (c_X0_has l dC dI cI cJ cZ q0 q1 q2 q3 w o d n V O E hD k (by omega)) (cwV 1 hts gX0_depthAt_X0_has rfl rfl rfl (by decide +kernel) ⟨Nat.le_of_ble_eq_true rfl, Nat.le_of_ble_eq_true rfl⟩) hK hP rfl rfl rfl hl.1 rfl (Nat.le_of_ble_eq_true rfl) dX0_depthAt_2 ⟨Nat.le_of_ble_eq_true rfl, Nat.le_of_ble_eq_true rfl⟩ ?_
  refine b_eq (tgt := 17) hx hb dX0_depthAt_5 (by decide) (fun c_5 => ?_) (fun c_5 => ?_)
  · exact absurd hkn (by simpa using c_5)
  · refine lv_aload_n hx hb dX0_depthAt_8 rfl (lv_at hl 0 rfl) ?_
    refine va_get (D := (dC, dI)) (ci := 0) (v := .ref (q3)) (C := RX0) (T := TX0) (N := 4) hx hb hts hi0 hown hK hP 0 rfl rfl 2 (by decide) (hts (.fieldLink RX0 19 "BurstWords$Dictionary" "depths" "[I") (by decide +kernel)) (fun _ h9 => h9) rfl dX0_depthAt_9 ?_
    refine lv_iload_n hx hb dX0_depthAt_12 rfl (lv_at hl 1 rfl) ?_
    refine g_i hx hb hK hP 3 0 rfl rfl (k := k) (by omega) (by decide) dX0_depthAt_13 (v := nI (E k)) (hk _ (by omega)).2.2.2.2.2.1 ?_
    refine lv_goto (tgt := 18) hx hb dX0_depthAt_14 (by decide) ?_
    exact r_i hx hb hr hlocks rfl dX0_depthAt_18
set_option maxHeartbeats 4000000 in
set_option maxRecDepth 100000 in
theorem c_X0_depthAt (l : Launch) (dC : Nat → ClassId) (dI : Nat → Nat → Nat) (cI cJ cZ : ClassId) (q0 q1 q2 q3 : Nat) (w : Nat → Int64) (o d : Nat → Int32) (n : Nat) (V O E : Nat → Nat) (hD : bDD w o d n V O E) (k : Nat) (hk31 : k < 2 ^ 31) : Met l yX0_depthAt wsX0_depthAt rm_X0_depthAt (rPc (dC, dI) (tysA cI cJ cZ) (wd q0 q1 q2 q3 cI cJ w o d n) [.ref (q0), .int (nI (k))]) (Ri (nI (boa E n k))) 0 0 (fun _ => False) := by
  refine met_r (cc := cX0_depthAt) (maxL := 2) (ret := (some .int)) (own := RX0) (by decide) rfl rfl (Nat.le_of_ble_eq_true rfl) ?_
  intro p e s m below meth c S hr hlocks hP hK ls hl
  obtain ⟨hx, hb, hml, hown, hts⟩ := id S
  have hl : lv_has ls 2 [(0, .ref (q0)), (1, .int (nI (k)))] := hl
  have hi0 : ∀ w ∈ wsX00, w ∈ wsX0_depthAt := fun _ h => List.mem_cons_of_mem _ (List.mem_append_right _ h)
  obtain ⟨hn, hk⟩ := id hD
  refine lv_aload_n hx hb dX0_depthAt_0 rfl (lv_at hl 0 rfl) ?_
  refine lv_iload_n hx hb dX0_depthAt_1 rfl (lv_at hl 1 rfl) ?_
  refine c_Vi (As := [.int (nI (k))]) (rest := []) (ci := 0) (q0 := 0) S (c_X0_has l dC dI cI cJ cZ q0 q1 q2 q3 w o d n V O E hD k (by omega)) (cwV 1 hts gX0_depthAt_X0_has rfl rfl rfl (by decide +kernel) ⟨Nat.le_of_ble_eq_true rfl, Nat.le_of_ble_eq_true rfl⟩) hK hP rfl rfl rfl hl.1 rfl (Nat.le_of_ble_eq_true rfl) dX0_depthAt_2 ⟨Nat.le_of_ble_eq_true rfl, Nat.le_of_ble_eq_true rfl⟩ ?_
  refine b_eq (tgt := 17) hx hb dX0_depthAt_5 (by decide) (fun c_5 => ?_) (fun c_5 => ?_)
  · refine lv_iconst (v := nI (0)) hx hb dX0_depthAt_17 (by decide) ?_
    exact r_i hx hb hr hlocks (congrArg nI (if_neg (by simpa using c_5)).symm) dX0_depthAt_18
  · refine lv_aload_n hx hb dX0_depthAt_8 rfl (lv_at hl 0 rfl) ?_
    refine va_get (D := (dC, dI)) (ci := 0) (v := .ref (q3)) (C := RX0) (T := TX0) (N := 4) hx hb hts hi0 hown hK hP 0 rfl rfl 2 (by decide) (hts (.fieldLink RX0 19 "BurstWords$Dictionary" "depths" "[I") (by decide +kernel)) (fun _ h9 => h9) rfl dX0_depthAt_9 ?_
    refine lv_iload_n hx hb dX0_depthAt_12 rfl (lv_at hl 1 rfl) ?_
    refine g_i hx hb hK hP 3 0 rfl rfl (k := k) (by simp at c_5; omega) (by decide) dX0_depthAt_13 (v := nI (E k)) (hk k (by simpa using c_5)).2.2.2.2.2.1 ?_
    refine lv_goto (tgt := 18) hx hb dX0_depthAt_14 (by decide) ?_
    exact r_i hx hb hr hlocks (congrArg nI (if_pos (by simpa using c_5)).symm) dX0_depthAt_18
abbrev rm_X0_placeOf : Room := { frames := 2, cells := 0, slots := 0, locals := 42 }
set_option maxHeartbeats 4000000 in
set_option maxRecDepth 100000 in
theorem c_X0_placeOf (l : Launch) (dC : Nat → ClassId) (dI : Nat → Nat → Nat) (cI cJ cZ : ClassId) (q0 q1 q2 q3 : Nat) (w : Nat → Int64) (o d : Nat → Int32) (n : Nat) (V O E : Nat → Nat) (hD : bDD w o d n V O E) (v : Nat) (hv : v < 27 ^ 7) : Met l yX0_placeOf wsX0_placeOf rm_X0_placeOf (rPc (dC, dI) (tysA cI cJ cZ) (wd q0 q1 q2 q3 cI cJ w o d n) [.ref (q0), .long (lN (be8 v))]) (Ri (nI (bpl V n v))) 0 0 (fun _ => False) := by
  refine met_r (cc := cX0_placeOf) (maxL := 4) (ret := (some .int)) (own := RX0) (by decide) rfl rfl (Nat.le_of_ble_eq_true rfl) ?_
  intro p e s m below meth c S hr hlocks hP hK ls hl
  obtain ⟨hx, hb, hml, hown, hts⟩ := id S
  have hl : lv_has ls 4 [(0, .ref (q0)), (1, .long (lN (be8 v)))] := hl
  have hi0 : ∀ w ∈ wsX00, w ∈ wsX0_placeOf := fun _ h => List.mem_cons_of_mem _ (List.mem_append_right _ h)
  obtain ⟨hn, hk⟩ := id hD
  refine lv_iconst (v := nI (0)) hx hb dX0_placeOf_0 (by decide) ?_
  refine lv_istore_n (lv' := [(3, .int (nI (0))), (0, .ref (q0)), (1, .long (lN (be8 v)))]) hx hb dX0_placeOf_1 rfl hl (by decide) rfl (fun ls hl => ?_)
  have lp_2 : ∀ (j_2 : Nat) (i : Nat), (i ≤ n) → (∀ k, k < i → V k < v) → (n - i) < j_2 → ∀ ls : Array Slot, lv_has ls 4 [(0, .ref (q0)), (1, .long (lN (be8 v))), (3, .int (nI (i)))] → W p l e rm_X0_placeOf s m ([.ref (q0), .long (lN (be8 v))] : List Value).toArray below meth c s.heap [] 0 0 (MQ below (Ri (nI (bpl V n v))) ([.ref (q0), .long (lN (be8 v))] : List Value).toArray s 0 0 (fun _ => False)) (F0 m 2 ls []) := by
    intro j_2
    induction j_2 with
    | zero => intro i _ _ h0; exact absurd h0 (Nat.not_lt_zero _)
    | succ j_2 ih_2 =>
      intro i hi hz hf_2 ls hl
      refine lv_iload_n hx hb dX0_placeOf_2 rfl (lv_at hl 2 rfl) ?_
      refine lv_aload_n hx hb dX0_placeOf_3 rfl (lv_at hl 0 rfl) ?_
      refine va_get (D := (dC, dI)) (ci := 0) (v := .int (nI (n))) (C := RX0) (T := TX0) (N := 4) hx hb hts hi0 hown hK hP 0 rfl rfl 3 (by decide) (hts (.fieldLink RX0 22 "BurstWords$Dictionary" "size" "I") (by decide +kernel)) (fun _ h9 => h9) rfl dX0_placeOf_4 ?_
      refine n_ge (tgt := 26) hx hb dX0_placeOf_7 (by decide) (by omega) (by omega) (fun c_7 => ?_) (fun c_7 => ?_)
      · refine lv_iload_n hx hb dX0_placeOf_26 rfl (lv_at hl 2 rfl) ?_
        exact r_i hx hb hr hlocks (congrArg nI (bfs_eq hi (fun k h => by simpa using hz k h) (fun h => absurd h (by omega))).symm) dX0_placeOf_27
      · refine lv_aload_n hx hb dX0_placeOf_10 rfl (lv_at hl 0 rfl) ?_
        refine lv_iload_n hx hb dX0_placeOf_11 rfl (lv_at hl 2 rfl) ?_
        refine c_Vl (As := [.int (nI (i))]) (rest := []) (ci := 0) (q0 := 0) S (c_X0_wordAt_in l dC dI cI cJ cZ q0 q1 q2 q3 w o d n V O E hD i (by omega)) (cwV 1 hts gX0_placeOf_X0_wordAt rfl rfl rfl (by decide +kernel) ⟨Nat.le_of_ble_eq_true rfl, Nat.le_of_ble_eq_true rfl⟩) hK hP rfl rfl rfl hl.1 rfl (Nat.le_of_ble_eq_true rfl) dX0_placeOf_12 ⟨Nat.le_of_ble_eq_true rfl, Nat.le_of_ble_eq_true rfl⟩ ?_
        refine lv_lload_n hx hb dX0_placeOf_15 rfl (lv_at hl 1 rfl) ?_
        refine q_ge (tgt := 26) hx hb dX0_placeOf_16 dX0_placeOf_17 (by decide) (be8_63 _) (be8_63 _) (fun c_16 => ?_) (fun c_16 => ?_)
        · refine lv_iload_n hx hb dX0_placeOf_26 rfl (lv_at hl 2 rfl) ?_
          exact r_i hx hb hr hlocks (congrArg nI (bfs_eq hi (fun k h => by simpa using hz k h) (fun h => by simpa using (be8_leI hv (hk i c_7).2.1.1).mp c_16)).symm) dX0_placeOf_27
        · refine lv_iinc (v := nI (i + 1)) (lv' := [(3, .int (nI (i + 1))), (0, .ref (q0)), (1, .long (lN (be8 v)))]) hx hb dX0_placeOf_20 hl (k := 2) rfl (inc1 _) (by decide) rfl (fun ls hl => ?_)
          refine lv_goto (tgt := 2) hx hb dX0_placeOf_23 (by decide) ?_
          exact ih_2 (i + 1) (by omega) (lt_s hz ((be8_ltI (hk i c_7).2.1.1 hv).mp c_16)) (by omega) ls (lv_sub hl [1, 2, 0] rfl)
  exact lp_2 _ (0) (by omega) lt_0 (Nat.lt_succ_self _) ls (lv_sub hl [1, 2, 0] rfl)
abbrev rm_X0_oftenOf : Room := { frames := 3, cells := 0, slots := 0, locals := 65 }
set_option maxHeartbeats 4000000 in
set_option maxRecDepth 100000 in
theorem c_X0_oftenOf (l : Launch) (dC : Nat → ClassId) (dI : Nat → Nat → Nat) (cI cJ cZ : ClassId) (q0 q1 q2 q3 : Nat) (w : Nat → Int64) (o d : Nat → Int32) (n : Nat) (V O E : Nat → Nat) (hD : bDD w o d n V O E) (v : Nat) (hv : v < 27 ^ 7) : Met l yX0_oftenOf wsX0_oftenOf rm_X0_oftenOf (rPc (dC, dI) (tysA cI cJ cZ) (wd q0 q1 q2 q3 cI cJ w o d n) [.ref (q0), .long (lN (be8 v))]) (Ri (nI (bof V O n v))) 0 0 (fun _ => False) := by
  refine met_r (cc := cX0_oftenOf) (maxL := 4) (ret := (some .int)) (own := RX0) (by decide) rfl rfl (Nat.le_of_ble_eq_true rfl) ?_
  intro p e s m below meth c S hr hlocks hP hK ls hl
  obtain ⟨hx, hb, hml, hown, hts⟩ := id S
  have hl : lv_has ls 4 [(0, .ref (q0)), (1, .long (lN (be8 v)))] := hl
  have hi0 : ∀ w ∈ wsX00, w ∈ wsX0_oftenOf := fun _ h => List.mem_cons_of_mem _ (List.mem_append_right _ h)
  obtain ⟨hn, hk⟩ := id hD
  have hpl := bpl_le V n v
  refine lv_aload_n hx hb dX0_oftenOf_0 rfl (lv_at hl 0 rfl) ?_
  refine lv_lload_n hx hb dX0_oftenOf_1 rfl (lv_at hl 1 rfl) ?_
  refine c_Vi (As := [.long (lN (be8 v))]) (rest := []) (ci := 0) (q0 := 0) S (c_X0_placeOf l dC dI cI cJ cZ q0 q1 q2 q3 w o d n V O E hD v hv) (cwV 1 hts gX0_oftenOf_X0_placeOf rfl rfl rfl (by decide +kernel) ⟨Nat.le_of_ble_eq_true rfl, Nat.le_of_ble_eq_true rfl⟩) hK hP rfl rfl rfl hl.1 rfl (Nat.le_of_ble_eq_true rfl) dX0_oftenOf_2 ⟨Nat.le_of_ble_eq_true rfl, Nat.le_of_ble_eq_true rfl⟩ ?_
  refine lv_istore_n (lv' := [(3, .int (nI (bpl V n v))), (0, .ref (q0)), (1, .long (lN (be8 v)))]) hx hb dX0_oftenOf_5 rfl hl (by decide) rfl (fun ls hl => ?_)
  refine lv_aload_n hx hb dX0_oftenOf_6 rfl (lv_at hl 1 rfl) ?_
  refine lv_iload_n hx hb dX0_oftenOf_7 rfl (lv_at hl 0 rfl) ?_
  refine c_Vl (As := [.int (nI (bpl V n v))]) (rest := []) (ci := 0) (q0 := 0) S (c_X0_wordAt l dC dI cI cJ cZ q0 q1 q2 q3 w o d n V O E hD (bpl V n v) (by omega)) (cwV 1 hts gX0_oftenOf_X0_wordAt rfl rfl rfl (by decide +kernel) ⟨Nat.le_of_ble_eq_true rfl, Nat.le_of_ble_eq_true rfl⟩) hK hP rfl rfl rfl hl.1 rfl (Nat.le_of_ble_eq_true rfl) dX0_oftenOf_8 ⟨Nat.le_of_ble_eq_true rfl, Nat.le_of_ble_eq_true rfl⟩ ?_
  refine lv_lload_n hx hb dX0_oftenOf_11 rfl (lv_at hl 2 rfl) ?_
  refine q_ne (tgt := 24) hx hb dX0_oftenOf_12 dX0_oftenOf_13 (by decide) (bwa_63 V n _) (be8_63 _) (fun c_12 => ?_) (fun c_12 => ?_)
  · refine lv_iconst (v := nI (0)) hx hb dX0_oftenOf_24 (by decide) ?_
    exact r_i hx hb hr hlocks (congrArg nI (bof_n (fun k h => (hk k h).2.1.1) (fun k h => (hk k h).2.2.1) hv c_12)) dX0_oftenOf_25
  · refine lv_aload_n hx hb dX0_oftenOf_16 rfl (lv_at hl 1 rfl) ?_
    refine lv_iload_n hx hb dX0_oftenOf_17 rfl (lv_at hl 0 rfl) ?_
    refine c_Vi (As := [.int (nI (bpl V n v))]) (rest := []) (ci := 0) (q0 := 0) S (c_X0_oftenAt l dC dI cI cJ cZ q0 q1 q2 q3 w o d n V O E hD (bpl V n v) (by omega)) (cwV 1 hts gX0_oftenOf_X0_oftenAt rfl rfl rfl (by decide +kernel) ⟨Nat.le_of_ble_eq_true rfl, Nat.le_of_ble_eq_true rfl⟩) hK hP rfl rfl rfl hl.1 rfl (Nat.le_of_ble_eq_true rfl) dX0_oftenOf_18 ⟨Nat.le_of_ble_eq_true rfl, Nat.le_of_ble_eq_true rfl⟩ ?_
    refine lv_goto (tgt := 25) hx hb dX0_oftenOf_21 (by decide) ?_
    exact r_i hx hb hr hlocks (congrArg nI (bof_y (fun k h => (hk k h).2.1.1) (fun k h => (hk k h).2.2.1) hv c_12)) dX0_oftenOf_25
abbrev rm_X0_depthOf : Room := { frames := 3, cells := 0, slots := 0, locals := 66 }
set_option maxHeartbeats 4000000 in
set_option maxRecDepth 100000 in
theorem c_X0_depthOf (l : Launch) (dC : Nat → ClassId) (dI : Nat → Nat → Nat) (cI cJ cZ : ClassId) (q0 q1 q2 q3 : Nat) (w : Nat → Int64) (o d : Nat → Int32) (n : Nat) (V O E : Nat → Nat) (hD : bDD w o d n V O E) (v : Nat) : Met l yX0_depthOf wsX0_depthOf rm_X0_depthOf (rPc (dC, dI) (tysA cI cJ cZ) (wd q0 q1 q2 q3 cI cJ w o d n) [.ref (q0), .long (lN (be8 v))]) (Ri (nI (bdp V E n v))) 0 0 (fun _ => False) := by
  refine met_r (cc := cX0_depthOf) (maxL := 6) (ret := (some .int)) (own := RX0) (by decide) rfl rfl (Nat.le_of_ble_eq_true rfl) ?_
  intro p e s m below meth c S hr hlocks hP hK ls hl
  obtain ⟨hx, hb, hml, hown, hts⟩ := id S
  have hl : lv_has ls 6 [(0, .ref (q0)), (1, .long (lN (be8 v)))] := hl
  have hi0 : ∀ w ∈ wsX00, w ∈ wsX0_depthOf := fun _ h => List.mem_cons_of_mem _ (List.mem_append_right _ h)
  obtain ⟨hn, hk⟩ := id hD
  refine lv_iconst (v := nI (0)) hx hb dX0_depthOf_0 (by decide) ?_
  refine lv_istore_n (lv' := [(3, .int (nI (0))), (0, .ref (q0)), (1, .long (lN (be8 v)))]) hx hb dX0_depthOf_1 rfl hl (by decide) rfl (fun ls hl => ?_)
  refine lv_iconst (v := nI (0)) hx hb dX0_depthOf_2 (by decide) ?_
  refine lv_istore (lv' := [(4, .int (nI (0))), (3, .int (nI (0))), (0, .ref (q0)), (1, .long (lN (be8 v)))]) hx hb dX0_depthOf_3 hl (by decide) rfl (fun ls hl => ?_)
  have lp_5 : ∀ (j_5 : Nat) (i : Nat), (i ≤ n) → (n - i) < j_5 → ∀ ls : Array Slot, lv_has ls 6 [(0, .ref (q0)), (1, .long (lN (be8 v))), (3, .int (nI (bdp V E i v))), (4, .int (nI (i)))] → W p l e rm_X0_depthOf s m ([.ref (q0), .long (lN (be8 v))] : List Value).toArray below meth c s.heap [] 0 0 (MQ below (Ri (nI (bdp V E n v))) ([.ref (q0), .long (lN (be8 v))] : List Value).toArray s 0 0 (fun _ => False)) (F0 m 5 ls []) := by
    intro j_5
    induction j_5 with
    | zero => intro i _ h0; exact absurd h0 (Nat.not_lt_zero _)
    | succ j_5 ih_5 =>
      intro i hi hf_5 ls hl
      refine lv_iload hx hb dX0_depthOf_5 (lv_at hl 3 rfl) ?_
      refine lv_aload_n hx hb dX0_depthOf_7 rfl (lv_at hl 0 rfl) ?_
      refine va_get (D := (dC, dI)) (ci := 0) (v := .int (nI (n))) (C := RX0) (T := TX0) (N := 4) hx hb hts hi0 hown hK hP 0 rfl rfl 3 (by decide) (hts (.fieldLink RX0 22 "BurstWords$Dictionary" "size" "I") (by decide +kernel)) (fun _ h9 => h9) rfl dX0_depthOf_8 ?_
      refine n_ge (tgt := 50) hx hb dX0_depthOf_11 (by decide) (by omega) (by omega) (fun c_11 => ?_) (fun c_11 => ?_)
      · refine lv_iload_n hx hb dX0_depthOf_50 rfl (lv_at hl 2 rfl) ?_
        exact r_i hx hb hr hlocks (by rw [show i = n by omega]) dX0_depthOf_51
      · refine lv_aload_n hx hb dX0_depthOf_14 rfl (lv_at hl 0 rfl) ?_
        refine lv_iload hx hb dX0_depthOf_15 (lv_at hl 3 rfl) ?_
        refine c_Vl (As := [.int (nI (i))]) (rest := []) (ci := 0) (q0 := 0) S (c_X0_wordAt_in l dC dI cI cJ cZ q0 q1 q2 q3 w o d n V O E hD i (by omega)) (cwV 1 hts gX0_depthOf_X0_wordAt rfl rfl rfl (by decide +kernel) ⟨Nat.le_of_ble_eq_true rfl, Nat.le_of_ble_eq_true rfl⟩) hK hP rfl rfl rfl hl.1 rfl (Nat.le_of_ble_eq_true rfl) dX0_depthOf_17 ⟨Nat.le_of_ble_eq_true rfl, Nat.le_of_ble_eq_true rfl⟩ ?_
        refine lv_lload_n hx hb dX0_depthOf_20 rfl (lv_at hl 1 rfl) ?_
        refine c_Si (As := [.long (lN (be8 (V i))), .long (lN (be8 v))]) (rest := []) S (c_X3_sharedBy l (V i) v) (va_cwS 2 hts gX0_depthOf_X3_sharedBy rfl rfl rfl (by decide +kernel) ⟨Nat.le_of_ble_eq_true rfl, Nat.le_of_ble_eq_true rfl⟩) rfl hl.1 rfl (Nat.le_of_ble_eq_true rfl) dX0_depthOf_21 ⟨Nat.le_of_ble_eq_true rfl, Nat.le_of_ble_eq_true rfl⟩ ?_
        refine lv_iconst (v := nI (1)) hx hb dX0_depthOf_24 (by decide) ?_
        refine lv_iadd hx hb dX0_depthOf_25 ?_
        refine tpi (nI_add _ _) ?_
        refine lv_istore (lv' := [(5, .int (nI ((bsh (V i) v) + 1))), (0, .ref (q0)), (1, .long (lN (be8 v))), (3, .int (nI (bdp V E i v))), (4, .int (nI (i)))]) hx hb dX0_depthOf_26 hl (by decide) rfl (fun ls hl => ?_)
        refine lv_iload_n hx hb dX0_depthOf_28 rfl (lv_at hl 3 rfl) ?_
        refine lv_iload hx hb dX0_depthOf_29 (lv_at hl 0 rfl) ?_
        refine lv_aload_n hx hb dX0_depthOf_31 rfl (lv_at hl 1 rfl) ?_
        refine lv_iload hx hb dX0_depthOf_32 (lv_at hl 4 rfl) ?_
        refine c_Vi (As := [.int (nI (i))]) (rest := [.int (nI ((bsh (V i) v) + 1)), .int (nI (bdp V E i v))]) (ci := 0) (q0 := 0) S (c_X0_depthAt_in l dC dI cI cJ cZ q0 q1 q2 q3 w o d n V O E hD i (by omega)) (cwV 1 hts gX0_depthOf_X0_depthAt rfl rfl rfl (by decide +kernel) ⟨Nat.le_of_ble_eq_true rfl, Nat.le_of_ble_eq_true rfl⟩) hK hP rfl rfl rfl hl.1 rfl (Nat.le_of_ble_eq_true rfl) dX0_depthOf_34 ⟨Nat.le_of_ble_eq_true rfl, Nat.le_of_ble_eq_true rfl⟩ ?_
        refine va_mmin hx hb (hml.trans hl.1.symm) hown (hts (.methodLink RX0 68 Lib.Math.min.name) (by decide +kernel)) (hts (.static Lib.Math.min.name) (by decide +kernel)) (hts (.initialized "java/lang/Math") (by decide +kernel)) (hts (.code Lib.Math.min.name Lib.Math.min.code 2 (some .int)) (by decide +kernel)) (Nat.le_of_ble_eq_true rfl) (Nat.le_of_ble_eq_true rfl) (Nat.le_of_ble_eq_true rfl) (Nat.le_of_ble_eq_true rfl) dX0_depthOf_37 ?_
        refine tpi (nmin (Nat.lt_of_le_of_lt (Nat.succ_le_succ (bsh_le _ _)) (by decide)) (Nat.lt_of_le_of_lt (hk _ c_11).2.2.2.2.2.2 (by decide))) ?_
        refine va_mmax hx hb (hml.trans hl.1.symm) hown (hts (.methodLink RX0 74 Lib.Math.max.name) (by decide +kernel)) (hts (.static Lib.Math.max.name) (by decide +kernel)) (hts (.initialized "java/lang/Math") (by decide +kernel)) (hts (.code Lib.Math.max.name Lib.Math.max.code 2 (some .int)) (by decide +kernel)) (Nat.le_of_ble_eq_true rfl) (Nat.le_of_ble_eq_true rfl) (Nat.le_of_ble_eq_true rfl) (Nat.le_of_ble_eq_true rfl) dX0_depthOf_40 ?_
        refine tpi (nmax (Nat.lt_of_le_of_lt bdp_le (by decide)) (Nat.lt_of_le_of_lt (Nat.min_le_right _ _) (Nat.lt_of_le_of_lt (hk _ c_11).2.2.2.2.2.2 (by decide)))) ?_
        refine lv_istore_n (lv' := [(3, .int (nI (max (bdp V E i v) (min ((bsh (V i) v) + 1) (E i))))), (5, .int (nI ((bsh (V i) v) + 1))), (0, .ref (q0)), (1, .long (lN (be8 v))), (4, .int (nI (i)))]) hx hb dX0_depthOf_43 rfl hl (by decide) rfl (fun ls hl => ?_)
        refine lv_iinc (v := nI (i + 1)) (lv' := [(4, .int (nI (i + 1))), (3, .int (nI (max (bdp V E i v) (min ((bsh (V i) v) + 1) (E i))))), (5, .int (nI ((bsh (V i) v) + 1))), (0, .ref (q0)), (1, .long (lN (be8 v)))]) hx hb dX0_depthOf_44 hl (k := 4) rfl (inc1 _) (by decide) rfl (fun ls hl => ?_)
        refine lv_goto (tgt := 5) hx hb dX0_depthOf_47 (by decide) ?_
        exact ih_5 (i + 1) (by omega) (by omega) ls (lv_sub hl [3, 4, 1, 0] rfl)
  exact lp_5 _ (0) (by omega) (Nat.lt_succ_self _) ls (lv_sub hl [2, 3, 1, 0] rfl)
abbrev rm_X0_sharing : Room := { frames := 3, cells := 0, slots := 0, locals := 66 }
set_option maxHeartbeats 4000000 in
set_option maxRecDepth 100000 in
theorem c_X0_sharing (l : Launch) (dC : Nat → ClassId) (dI : Nat → Nat → Nat) (cI cJ cZ : ClassId) (q0 q1 q2 q3 : Nat) (w : Nat → Int64) (o d : Nat → Int32) (n : Nat) (V O E : Nat → Nat) (hD : bDD w o d n V O E) (v : Nat) (g : Nat) (hg : g < 2 ^ 31) : Met l yX0_sharing wsX0_sharing rm_X0_sharing (rPc (dC, dI) (tysA cI cJ cZ) (wd q0 q1 q2 q3 cI cJ w o d n) [.ref (q0), .long (lN (be8 v)), .int (nI (g))]) (Ri (nI (bsc V n v g))) 0 0 (fun _ => False) := by
  refine met_r (cc := cX0_sharing) (maxL := 6) (ret := (some .int)) (own := RX0) (by decide) rfl rfl (Nat.le_of_ble_eq_true rfl) ?_
  intro p e s m below meth c S hr hlocks hP hK ls hl
  obtain ⟨hx, hb, hml, hown, hts⟩ := id S
  have hl : lv_has ls 6 [(0, .ref (q0)), (1, .long (lN (be8 v))), (3, .int (nI (g)))] := hl
  have hi0 : ∀ w ∈ wsX00, w ∈ wsX0_sharing := fun _ h => List.mem_cons_of_mem _ (List.mem_append_right _ h)
  obtain ⟨hn, hk⟩ := id hD
  refine lv_iconst (v := nI (0)) hx hb dX0_sharing_0 (by decide) ?_
  refine lv_istore (lv' := [(4, .int (nI (0))), (0, .ref (q0)), (1, .long (lN (be8 v))), (3, .int (nI (g)))]) hx hb dX0_sharing_1 hl (by decide) rfl (fun ls hl => ?_)
  refine lv_iconst (v := nI (0)) hx hb dX0_sharing_3 (by decide) ?_
  refine lv_istore (lv' := [(5, .int (nI (0))), (4, .int (nI (0))), (0, .ref (q0)), (1, .long (lN (be8 v))), (3, .int (nI (g)))]) hx hb dX0_sharing_4 hl (by decide) rfl (fun ls hl => ?_)
  have lp_6 : ∀ (j_6 : Nat) (i : Nat), (i ≤ n) → (n - i) < j_6 → ∀ ls : Array Slot, lv_has ls 6 [(0, .ref (q0)), (1, .long (lN (be8 v))), (3, .int (nI (g))), (4, .int (nI (bsc V i v g))), (5, .int (nI (i)))] → W p l e rm_X0_sharing s m ([.ref (q0), .long (lN (be8 v)), .int (nI (g))] : List Value).toArray below meth c s.heap [] 0 0 (MQ below (Ri (nI (bsc V n v g))) ([.ref (q0), .long (lN (be8 v)), .int (nI (g))] : List Value).toArray s 0 0 (fun _ => False)) (F0 m 6 ls []) := by
    intro j_6
    induction j_6 with
    | zero => intro i _ h0; exact absurd h0 (Nat.not_lt_zero _)
    | succ j_6 ih_6 =>
      intro i hi hf_6 ls hl
      refine lv_iload hx hb dX0_sharing_6 (lv_at hl 4 rfl) ?_
      refine lv_aload_n hx hb dX0_sharing_8 rfl (lv_at hl 0 rfl) ?_
      refine va_get (D := (dC, dI)) (ci := 0) (v := .int (nI (n))) (C := RX0) (T := TX0) (N := 4) hx hb hts hi0 hown hK hP 0 rfl rfl 3 (by decide) (hts (.fieldLink RX0 22 "BurstWords$Dictionary" "size" "I") (by decide +kernel)) (fun _ h9 => h9) rfl dX0_sharing_9 ?_
      refine n_ge (tgt := 38) hx hb dX0_sharing_12 (by decide) (by omega) (by omega) (fun c_12 => ?_) (fun c_12 => ?_)
      · refine lv_iload hx hb dX0_sharing_38 (lv_at hl 3 rfl) ?_
        exact r_i hx hb hr hlocks (by rw [show i = n by omega]) dX0_sharing_40
      · refine lv_aload_n hx hb dX0_sharing_15 rfl (lv_at hl 0 rfl) ?_
        refine lv_iload hx hb dX0_sharing_16 (lv_at hl 4 rfl) ?_
        refine c_Vl (As := [.int (nI (i))]) (rest := []) (ci := 0) (q0 := 0) S (c_X0_wordAt_in l dC dI cI cJ cZ q0 q1 q2 q3 w o d n V O E hD i (by omega)) (cwV 1 hts gX0_sharing_X0_wordAt rfl rfl rfl (by decide +kernel) ⟨Nat.le_of_ble_eq_true rfl, Nat.le_of_ble_eq_true rfl⟩) hK hP rfl rfl rfl hl.1 rfl (Nat.le_of_ble_eq_true rfl) dX0_sharing_18 ⟨Nat.le_of_ble_eq_true rfl, Nat.le_of_ble_eq_true rfl⟩ ?_
        refine lv_lload_n hx hb dX0_sharing_21 rfl (lv_at hl 1 rfl) ?_
        refine c_Si (As := [.long (lN (be8 (V i))), .long (lN (be8 v))]) (rest := []) S (c_X3_sharedBy l (V i) v) (va_cwS 2 hts gX0_sharing_X3_sharedBy rfl rfl rfl (by decide +kernel) ⟨Nat.le_of_ble_eq_true rfl, Nat.le_of_ble_eq_true rfl⟩) rfl hl.1 rfl (Nat.le_of_ble_eq_true rfl) dX0_sharing_22 ⟨Nat.le_of_ble_eq_true rfl, Nat.le_of_ble_eq_true rfl⟩ ?_
        refine lv_iload_n hx hb dX0_sharing_25 rfl (lv_at hl 2 rfl) ?_
        refine n_lt (tgt := 32) hx hb dX0_sharing_26 (by decide) (Nat.lt_of_le_of_lt (bsh_le _ _) (by decide)) hg (fun c_26 => ?_) (fun c_26 => ?_)
        · refine lv_iinc (v := nI (i + 1)) (lv' := [(5, .int (nI (i + 1))), (0, .ref (q0)), (1, .long (lN (be8 v))), (3, .int (nI (g))), (4, .int (nI (bsc V i v g)))]) hx hb dX0_sharing_32 hl (k := 4) rfl (inc1 _) (by decide) rfl (fun ls hl => ?_)
          refine lv_goto (tgt := 6) hx hb dX0_sharing_35 (by decide) ?_
          exact ih_6 (i + 1) (by omega) (by omega) ls (lv_cg (l := [(0, .ref (q0)), (1, .long (lN (be8 v))), (3, .int (nI (g))), (4, .int (nI (bsc V i v g))), (5, .int (nI (i + 1)))]) (lv_sub hl [1, 2, 3, 4, 0] rfl) (by unfold bsc; rw [ct_n (p := (fun k => decide (g ≤ bsh (V k) v))) (n := i) (by simpa using c_26)]))
        · refine lv_iinc (v := nI (bsc V i v g + 1)) (lv' := [(4, .int (nI (bsc V i v g + 1))), (0, .ref (q0)), (1, .long (lN (be8 v))), (3, .int (nI (g))), (5, .int (nI (i)))]) hx hb dX0_sharing_29 hl (k := 3) rfl (inc1 _) (by decide) rfl (fun ls hl => ?_)
          refine lv_iinc (v := nI (i + 1)) (lv' := [(5, .int (nI (i + 1))), (4, .int (nI (bsc V i v g + 1))), (0, .ref (q0)), (1, .long (lN (be8 v))), (3, .int (nI (g)))]) hx hb dX0_sharing_32 hl (k := 4) rfl (inc1 _) (by decide) rfl (fun ls hl => ?_)
          refine lv_goto (tgt := 6) hx hb dX0_sharing_35 (by decide) ?_
          exact ih_6 (i + 1) (by omega) (by omega) ls (lv_cg (l := [(0, .ref (q0)), (1, .long (lN (be8 v))), (3, .int (nI (g))), (4, .int (nI (bsc V i v g + 1))), (5, .int (nI (i + 1)))]) (lv_sub hl [2, 3, 4, 1, 0] rfl) (by unfold bsc; rw [ct_y (p := (fun k => decide (g ≤ bsh (V k) v))) (n := i) (by simpa using c_26)]))
  exact lp_6 _ (0) (by omega) (Nat.lt_succ_self _) ls (lv_sub hl [2, 3, 4, 1, 0] rfl)
abbrev rm_X0_burstDepth : Room := { frames := 4, cells := 0, slots := 0, locals := 91 }
set_option maxHeartbeats 4000000 in
set_option maxRecDepth 100000 in
theorem c_X0_burstDepth (l : Launch) (dC : Nat → ClassId) (dI : Nat → Nat → Nat) (cI cJ cZ : ClassId) (q0 q1 q2 q3 : Nat) (w : Nat → Int64) (o d : Nat → Int32) (n : Nat) (V O E : Nat → Nat) (hD : bDD w o d n V O E) (v : Nat) (g : Nat) (b : Nat) (hg : g ≤ bln v + 1) (hb2 : b < 2 ^ 31) : Met l yX0_burstDepth wsX0_burstDepth rm_X0_burstDepth (rPc (dC, dI) (tysA cI cJ cZ) (wd q0 q1 q2 q3 cI cJ w o d n) [.ref (q0), .long (lN (be8 v)), .int (nI (g)), .int (nI (b))]) (Ri (nI (bbd V n v g b))) 0 0 (fun _ => False) := by
  refine met_r (cc := cX0_burstDepth) (maxL := 7) (ret := (some .int)) (own := RX0) (by decide) rfl rfl (Nat.le_of_ble_eq_true rfl) ?_
  intro p e s m below meth c S hr hlocks hP hK ls hl
  obtain ⟨hx, hb, hml, hown, hts⟩ := id S
  have hl : lv_has ls 7 [(0, .ref (q0)), (1, .long (lN (be8 v))), (3, .int (nI (g))), (4, .int (nI (b)))] := hl
  have hi0 : ∀ w ∈ wsX00, w ∈ wsX0_burstDepth := fun _ h => List.mem_cons_of_mem _ (List.mem_append_right _ h)
  obtain ⟨hn, hk⟩ := id hD
  have hln := bln_le v
  refine lv_lload_n hx hb dX0_burstDepth_0 rfl (lv_at hl 1 rfl) ?_
  refine c_Si (As := [.long (lN (be8 v))]) (rest := []) S (c_X3_lengthOf l v) (va_cwS 1 hts gX0_burstDepth_X3_lengthOf rfl rfl rfl (by decide +kernel) ⟨Nat.le_of_ble_eq_true rfl, Nat.le_of_ble_eq_true rfl⟩) rfl hl.1 rfl (Nat.le_of_ble_eq_true rfl) dX0_burstDepth_1 ⟨Nat.le_of_ble_eq_true rfl, Nat.le_of_ble_eq_true rfl⟩ ?_
  refine lv_istore (lv' := [(5, .int (nI (bln v))), (0, .ref (q0)), (1, .long (lN (be8 v))), (3, .int (nI (g))), (4, .int (nI (b)))]) hx hb dX0_burstDepth_4 hl (by decide) rfl (fun ls hl => ?_)
  refine lv_iload_n hx hb dX0_burstDepth_6 rfl (lv_at hl 3 rfl) ?_
  refine lv_istore (lv' := [(6, .int (nI (g))), (5, .int (nI (bln v))), (0, .ref (q0)), (1, .long (lN (be8 v))), (3, .int (nI (g))), (4, .int (nI (b)))]) hx hb dX0_burstDepth_7 hl (by decide) rfl (fun ls hl => ?_)
  have lp_9 : ∀ (j_9 : Nat) (t : Nat), (t ≤ bln v + 1 - g) → (∀ k, k < t → b < bsc V n v (g + k)) → (bln v + 1 - t) < j_9 → ∀ ls : Array Slot, lv_has ls 7 [(0, .ref (q0)), (1, .long (lN (be8 v))), (4, .int (nI (b))), (5, .int (nI (bln v))), (6, .int (nI (g + t)))] → W p l e rm_X0_burstDepth s m ([.ref (q0), .long (lN (be8 v)), .int (nI (g)), .int (nI (b))] : List Value).toArray below meth c s.heap [] 0 0 (MQ below (Ri (nI (bbd V n v g b))) ([.ref (q0), .long (lN (be8 v)), .int (nI (g)), .int (nI (b))] : List Value).toArray s 0 0 (fun _ => False)) (F0 m 9 ls []) := by
    intro j_9
    induction j_9 with
    | zero => intro t _ _ h0; exact absurd h0 (Nat.not_lt_zero _)
    | succ j_9 ih_9 =>
      intro t ht hz hf_9 ls hl
      refine lv_iload hx hb dX0_burstDepth_9 (lv_at hl 4 rfl) ?_
      refine lv_iload hx hb dX0_burstDepth_11 (lv_at hl 3 rfl) ?_
      refine n_gt (tgt := 34) hx hb dX0_burstDepth_13 (by decide) (by omega) (by omega) (fun c_13 => ?_) (fun c_13 => ?_)
      · refine lv_iload hx hb dX0_burstDepth_34 (lv_at hl 4 rfl) ?_
        exact r_i hx hb hr hlocks (congrArg nI (congrArg (g + ·) (bfs_eq ht (fun k h => by simpa using hz k h) (fun h => absurd h (by omega))).symm)) dX0_burstDepth_36
      · refine lv_aload_n hx hb dX0_burstDepth_16 rfl (lv_at hl 0 rfl) ?_
        refine lv_lload_n hx hb dX0_burstDepth_17 rfl (lv_at hl 1 rfl) ?_
        refine lv_iload hx hb dX0_burstDepth_18 (lv_at hl 4 rfl) ?_
        refine c_Vi (As := [.long (lN (be8 v)), .int (nI (g + t))]) (rest := []) (ci := 0) (q0 := 0) S (c_X0_sharing l dC dI cI cJ cZ q0 q1 q2 q3 w o d n V O E hD v (g + t) (by omega)) (cwV 2 hts gX0_burstDepth_X0_sharing rfl rfl rfl (by decide +kernel) ⟨Nat.le_of_ble_eq_true rfl, Nat.le_of_ble_eq_true rfl⟩) hK hP rfl rfl rfl hl.1 rfl (Nat.le_of_ble_eq_true rfl) dX0_burstDepth_20 ⟨Nat.le_of_ble_eq_true rfl, Nat.le_of_ble_eq_true rfl⟩ ?_
        refine lv_iload hx hb dX0_burstDepth_23 (lv_at hl 2 rfl) ?_
        refine n_le (tgt := 34) hx hb dX0_burstDepth_25 (by decide) (Nat.lt_of_le_of_lt (bsc_le _ _ _ _) (by omega)) (by omega) (fun c_25 => ?_) (fun c_25 => ?_)
        · refine lv_iload hx hb dX0_burstDepth_34 (lv_at hl 4 rfl) ?_
          exact r_i hx hb hr hlocks (congrArg nI (congrArg (g + ·) (bfs_eq ht (fun k h => by simpa using hz k h) (fun h => by simpa using c_25)).symm)) dX0_burstDepth_36
        · refine lv_iinc (v := nI ((g + t) + 1)) (lv' := [(6, .int (nI ((g + t) + 1))), (0, .ref (q0)), (1, .long (lN (be8 v))), (4, .int (nI (b))), (5, .int (nI (bln v)))]) hx hb dX0_burstDepth_28 hl (k := 4) rfl (inc1 _) (by decide) rfl (fun ls hl => ?_)
          refine lv_goto (tgt := 9) hx hb dX0_burstDepth_31 (by decide) ?_
          exact ih_9 (t + 1) (by omega) (lt_s hz c_25) (by omega) ls (lv_sub hl [1, 2, 3, 4, 0] rfl)
  exact lp_9 _ (0) (by omega) lt_0 (Nat.lt_succ_self _) ls (lv_sub hl [2, 3, 5, 1, 0] rfl)
abbrev rm_X0_mergedDepth : Room := { frames := 4, cells := 0, slots := 0, locals := 91 }
set_option maxHeartbeats 4000000 in
set_option maxRecDepth 100000 in
theorem c_X0_mergedDepth (l : Launch) (dC : Nat → ClassId) (dI : Nat → Nat → Nat) (cI cJ cZ : ClassId) (q0 q1 q2 q3 : Nat) (w : Nat → Int64) (o d : Nat → Int32) (n : Nat) (V O E : Nat → Nat) (hD : bDD w o d n V O E) (v : Nat) (g : Nat) (b : Nat) (hg : g ≤ 8) (hb2 : b < 2 ^ 31) : Met l yX0_mergedDepth wsX0_mergedDepth rm_X0_mergedDepth (rPc (dC, dI) (tysA cI cJ cZ) (wd q0 q1 q2 q3 cI cJ w o d n) [.ref (q0), .long (lN (be8 v)), .int (nI (g)), .int (nI (b))]) (Ri (nI (bmd V n v b g))) 0 0 (fun _ => False) := by
  refine met_r (cc := cX0_mergedDepth) (maxL := 6) (ret := (some .int)) (own := RX0) (by decide) rfl rfl (Nat.le_of_ble_eq_true rfl) ?_
  intro p e s m below meth c S hr hlocks hP hK ls hl
  obtain ⟨hx, hb, hml, hown, hts⟩ := id S
  have hl : lv_has ls 6 [(0, .ref (q0)), (1, .long (lN (be8 v))), (3, .int (nI (g))), (4, .int (nI (b)))] := hl
  have hi0 : ∀ w ∈ wsX00, w ∈ wsX0_mergedDepth := fun _ h => List.mem_cons_of_mem _ (List.mem_append_right _ h)
  obtain ⟨hn, hk⟩ := id hD
  refine lv_iload_n hx hb dX0_mergedDepth_0 rfl (lv_at hl 2 rfl) ?_
  refine lv_istore (lv' := [(5, .int (nI (g))), (0, .ref (q0)), (1, .long (lN (be8 v))), (3, .int (nI (g))), (4, .int (nI (b)))]) hx hb dX0_mergedDepth_1 hl (by decide) rfl (fun ls hl => ?_)
  have lp_3 : ∀ (j_3 : Nat) (t : Nat), (t ≤ g) → (bmd V n v b t = bmd V n v b g) → (t) < j_3 → ∀ ls : Array Slot, lv_has ls 6 [(0, .ref (q0)), (1, .long (lN (be8 v))), (4, .int (nI (b))), (5, .int (nI (t)))] → W p l e rm_X0_mergedDepth s m ([.ref (q0), .long (lN (be8 v)), .int (nI (g)), .int (nI (b))] : List Value).toArray below meth c s.heap [] 0 0 (MQ below (Ri (nI (bmd V n v b g))) ([.ref (q0), .long (lN (be8 v)), .int (nI (g)), .int (nI (b))] : List Value).toArray s 0 0 (fun _ => False)) (F0 m 3 ls []) := by
    intro j_3
    induction j_3 with
    | zero => intro t _ _ h0; exact absurd h0 (Nat.not_lt_zero _)
    | succ j_3 ih_3 =>
      intro t ht hz hf_3 ls hl
      refine lv_iload hx hb dX0_mergedDepth_3 (lv_at hl 3 rfl) ?_
      refine z_le (tgt := 28) hx hb dX0_mergedDepth_5 (by decide) (by omega) (fun c_5 => ?_) (fun c_5 => ?_)
      · refine lv_iload hx hb dX0_mergedDepth_28 (lv_at hl 3 rfl) ?_
        exact r_i hx hb hr hlocks (by rw [← hz, c_5]; rfl) dX0_mergedDepth_30
      · refine lv_aload_n hx hb dX0_mergedDepth_8 rfl (lv_at hl 0 rfl) ?_
        refine lv_lload_n hx hb dX0_mergedDepth_9 rfl (lv_at hl 1 rfl) ?_
        refine lv_iload hx hb dX0_mergedDepth_10 (lv_at hl 3 rfl) ?_
        refine lv_iconst (v := nI (1)) hx hb dX0_mergedDepth_12 (by decide) ?_
        refine lv_isub hx hb dX0_mergedDepth_13 ?_
        refine tpi (pk_sub (by omega)) ?_
        refine c_Vi (As := [.long (lN (be8 v)), .int (nI (t - 1))]) (rest := []) (ci := 0) (q0 := 0) S (c_X0_sharing l dC dI cI cJ cZ q0 q1 q2 q3 w o d n V O E hD v (t - 1) (by omega)) (cwV 2 hts gX0_mergedDepth_X0_sharing rfl rfl rfl (by decide +kernel) ⟨Nat.le_of_ble_eq_true rfl, Nat.le_of_ble_eq_true rfl⟩) hK hP rfl rfl rfl hl.1 rfl (Nat.le_of_ble_eq_true rfl) dX0_mergedDepth_14 ⟨Nat.le_of_ble_eq_true rfl, Nat.le_of_ble_eq_true rfl⟩ ?_
        refine lv_iload hx hb dX0_mergedDepth_17 (lv_at hl 2 rfl) ?_
        refine n_gt (tgt := 28) hx hb dX0_mergedDepth_19 (by decide) (Nat.lt_of_le_of_lt (bsc_le _ _ _ _) (by omega)) (by omega) (fun c_19 => ?_) (fun c_19 => ?_)
        · refine lv_iload hx hb dX0_mergedDepth_28 (lv_at hl 3 rfl) ?_
          exact r_i hx hb hr hlocks (by rw [← hz, bmd_e c_5 c_19]) dX0_mergedDepth_30
        · refine lv_iinc (v := nI ((t) - 1)) (lv' := [(5, .int (nI ((t) - 1))), (0, .ref (q0)), (1, .long (lN (be8 v))), (4, .int (nI (b)))]) hx hb dX0_mergedDepth_22 hl (k := 3) rfl (dec1 (by omega)) (by decide) rfl (fun ls hl => ?_)
          refine lv_goto (tgt := 3) hx hb dX0_mergedDepth_25 (by decide) ?_
          exact ih_3 ((t) - 1) (by omega) (by rw [← hz, ← bmd_s c_5 c_19]) (by omega) ls (lv_sub hl [1, 2, 3, 0] rfl)
  exact lp_3 _ (g) (by omega) rfl (Nat.lt_succ_self _) ls (lv_sub hl [1, 2, 4, 0] rfl)
end
section
abbrev rm_X0_oftenBelow : Room := { frames := 2, cells := 0, slots := 0, locals := 42 }
set_option maxHeartbeats 4000000 in
set_option maxRecDepth 100000 in
theorem c_X0_oftenBelow (l : Launch) (dC : Nat → ClassId) (dI : Nat → Nat → Nat) (cI cJ cZ : ClassId) (q0 q1 q2 q3 : Nat) (w : Nat → Int64) (o d : Nat → Int32) (n : Nat) (V O E : Nat → Nat) (hD : bDD w o d n V O E) (k : Nat) (hkn : k ≤ n) : Met l yX0_oftenBelow wsX0_oftenBelow rm_X0_oftenBelow (rPc (dC, dI) (tysA cI cJ cZ) (wd q0 q1 q2 q3 cI cJ w o d n) [.ref (q0), .int (nI (k))]) (Ri (nI (fb_sm O k))) 0 0 (fun _ => False) := by
  refine met_r (cc := cX0_oftenBelow) (maxL := 4) (ret := (some .int)) (own := RX0) (by decide) rfl rfl (Nat.le_of_ble_eq_true rfl) ?_
  intro p e s m below meth c S hr hlocks hP hK ls hl
  obtain ⟨hx, hb, hml, hown, hts⟩ := id S
  have hl : lv_has ls 4 [(0, .ref (q0)), (1, .int (nI (k)))] := hl
  have hi0 : ∀ w ∈ wsX00, w ∈ wsX0_oftenBelow := fun _ h => List.mem_cons_of_mem _ (List.mem_append_right _ h)
  obtain ⟨hn, hk⟩ := id hD
  refine lv_iconst (v := nI (0)) hx hb dX0_oftenBelow_0 (by decide) ?_
  refine lv_istore_n (lv' := [(2, .int (nI (0))), (0, .ref (q0)), (1, .int (nI (k)))]) hx hb dX0_oftenBelow_1 rfl hl (by decide) rfl (fun ls hl => ?_)
  refine lv_iconst (v := nI (0)) hx hb dX0_oftenBelow_2 (by decide) ?_
  refine lv_istore_n (lv' := [(3, .int (nI (0))), (2, .int (nI (0))), (0, .ref (q0)), (1, .int (nI (k)))]) hx hb dX0_oftenBelow_3 rfl hl (by decide) rfl (fun ls hl => ?_)
  have lp_4 : ∀ (j_4 : Nat) (i : Nat), (i ≤ k) → (k - i) < j_4 → ∀ ls : Array Slot, lv_has ls 4 [(0, .ref (q0)), (1, .int (nI (k))), (2, .int (nI (fb_sm O i))), (3, .int (nI (i)))] → W p l e rm_X0_oftenBelow s m ([.ref (q0), .int (nI (k))] : List Value).toArray below meth c s.heap [] 0 0 (MQ below (Ri (nI (fb_sm O k))) ([.ref (q0), .int (nI (k))] : List Value).toArray s 0 0 (fun _ => False)) (F0 m 4 ls []) := by
    intro j_4
    induction j_4 with
    | zero => intro i _ h0; exact absurd h0 (Nat.not_lt_zero _)
    | succ j_4 ih_4 =>
      intro i hi hf_4 ls hl
      refine lv_iload_n hx hb dX0_oftenBelow_4 rfl (lv_at hl 3 rfl) ?_
      refine lv_iload_n hx hb dX0_oftenBelow_5 rfl (lv_at hl 1 rfl) ?_
      refine n_ge (tgt := 31) hx hb dX0_oftenBelow_6 (by decide) (by omega) (by omega) (fun c_6 => ?_) (fun c_6 => ?_)
      · refine lv_iload_n hx hb dX0_oftenBelow_31 rfl (lv_at hl 2 rfl) ?_
        exact r_i hx hb hr hlocks (by rw [show i = k by omega]) dX0_oftenBelow_32
      · refine lv_iload_n hx hb dX0_oftenBelow_9 rfl (lv_at hl 3 rfl) ?_
        refine lv_aload_n hx hb dX0_oftenBelow_10 rfl (lv_at hl 0 rfl) ?_
        refine va_get (D := (dC, dI)) (ci := 0) (v := .int (nI (n))) (C := RX0) (T := TX0) (N := 4) hx hb hts hi0 hown hK hP 0 rfl rfl 3 (by decide) (hts (.fieldLink RX0 22 "BurstWords$Dictionary" "size" "I") (by decide +kernel)) (fun _ h9 => h9) rfl dX0_oftenBelow_11 ?_
        refine n_ge (tgt := 31) hx hb dX0_oftenBelow_14 (by decide) (by omega) (by omega) (fun c_14 => ?_) (fun c_14 => ?_)
        · exact absurd c_14 (by omega)
        · refine lv_iload_n hx hb dX0_oftenBelow_17 rfl (lv_at hl 2 rfl) ?_
          refine lv_aload_n hx hb dX0_oftenBelow_18 rfl (lv_at hl 0 rfl) ?_
          refine lv_iload_n hx hb dX0_oftenBelow_19 rfl (lv_at hl 3 rfl) ?_
          refine c_Vi (As := [.int (nI (i))]) (rest := [.int (nI (fb_sm O i))]) (ci := 0) (q0 := 0) S (c_X0_oftenAt_in l dC dI cI cJ cZ q0 q1 q2 q3 w o d n V O E hD i (by omega)) (cwV 1 hts gX0_oftenBelow_X0_oftenAt rfl rfl rfl (by decide +kernel) ⟨Nat.le_of_ble_eq_true rfl, Nat.le_of_ble_eq_true rfl⟩) hK hP rfl rfl rfl hl.1 rfl (Nat.le_of_ble_eq_true rfl) dX0_oftenBelow_20 ⟨Nat.le_of_ble_eq_true rfl, Nat.le_of_ble_eq_true rfl⟩ ?_
          refine lv_iadd hx hb dX0_oftenBelow_23 ?_
          refine tpi (nI_add _ _) ?_
          refine lv_istore_n (lv' := [(2, .int (nI ((fb_sm O i) + (O i)))), (0, .ref (q0)), (1, .int (nI (k))), (3, .int (nI (i)))]) hx hb dX0_oftenBelow_24 rfl hl (by decide) rfl (fun ls hl => ?_)
          refine lv_iinc (v := nI (i + 1)) (lv' := [(3, .int (nI (i + 1))), (2, .int (nI ((fb_sm O i) + (O i)))), (0, .ref (q0)), (1, .int (nI (k)))]) hx hb dX0_oftenBelow_25 hl (k := 3) rfl (inc1 _) (by decide) rfl (fun ls hl => ?_)
          refine lv_goto (tgt := 4) hx hb dX0_oftenBelow_28 (by decide) ?_
          exact ih_4 (i + 1) (by omega) (by omega) ls (lv_sub hl [2, 3, 1, 0] rfl)
  exact lp_4 _ (0) (by omega) (Nat.lt_succ_self _) ls (lv_sub hl [2, 3, 1, 0] rfl)
abbrev rm_X0_oftenBegun : Room := { frames := 4, cells := 0, slots := 0, locals := 89 }
set_option maxHeartbeats 4000000 in
set_option maxRecDepth 100000 in
theorem c_X0_oftenBegun (l : Launch) (dC : Nat → ClassId) (dI : Nat → Nat → Nat) (cI cJ cZ : ClassId) (q0 q1 q2 q3 : Nat) (w : Nat → Int64) (o d : Nat → Int32) (n : Nat) (V O E : Nat → Nat) (hD : bDD w o d n V O E) (u : Nat) : Met l yX0_oftenBegun wsX0_oftenBegun rm_X0_oftenBegun (rPc (dC, dI) (tysA cI cJ cZ) (wd q0 q1 q2 q3 cI cJ w o d n) [.ref (q0), .long (lN (be8 u))]) (Ri (nI (fb_sm (fun k => if bsh u (V k) == bln u then O k else 0) n))) 0 0 (fun _ => False) := by
  refine met_r (cc := cX0_oftenBegun) (maxL := 5) (ret := (some .int)) (own := RX0) (by decide) rfl rfl (Nat.le_of_ble_eq_true rfl) ?_
  intro p e s m below meth c S hr hlocks hP hK ls hl
  obtain ⟨hx, hb, hml, hown, hts⟩ := id S
  have hl : lv_has ls 5 [(0, .ref (q0)), (1, .long (lN (be8 u)))] := hl
  have hi0 : ∀ w ∈ wsX00, w ∈ wsX0_oftenBegun := fun _ h => List.mem_cons_of_mem _ (List.mem_append_right _ h)
  obtain ⟨hn, hk⟩ := id hD
  refine lv_iconst (v := nI (0)) hx hb dX0_oftenBegun_0 (by decide) ?_
  refine lv_istore_n (lv' := [(3, .int (nI (0))), (0, .ref (q0)), (1, .long (lN (be8 u)))]) hx hb dX0_oftenBegun_1 rfl hl (by decide) rfl (fun ls hl => ?_)
  refine lv_iconst (v := nI (0)) hx hb dX0_oftenBegun_2 (by decide) ?_
  refine lv_istore (lv' := [(4, .int (nI (0))), (3, .int (nI (0))), (0, .ref (q0)), (1, .long (lN (be8 u)))]) hx hb dX0_oftenBegun_3 hl (by decide) rfl (fun ls hl => ?_)
  have lp_5 : ∀ (j_5 : Nat) (i : Nat), (i ≤ n) → (n - i) < j_5 → ∀ ls : Array Slot, lv_has ls 5 [(0, .ref (q0)), (1, .long (lN (be8 u))), (3, .int (nI (fb_sm (fun k => if bsh u (V k) == bln u then O k else 0) i))), (4, .int (nI (i)))] → W p l e rm_X0_oftenBegun s m ([.ref (q0), .long (lN (be8 u))] : List Value).toArray below meth c s.heap [] 0 0 (MQ below (Ri (nI (fb_sm (fun k => if bsh u (V k) == bln u then O k else 0) n))) ([.ref (q0), .long (lN (be8 u))] : List Value).toArray s 0 0 (fun _ => False)) (F0 m 5 ls []) := by
    intro j_5
    induction j_5 with
    | zero => intro i _ h0; exact absurd h0 (Nat.not_lt_zero _)
    | succ j_5 ih_5 =>
      intro i hi hf_5 ls hl
      refine lv_iload hx hb dX0_oftenBegun_5 (lv_at hl 3 rfl) ?_
      refine lv_aload_n hx hb dX0_oftenBegun_7 rfl (lv_at hl 0 rfl) ?_
      refine va_get (D := (dC, dI)) (ci := 0) (v := .int (nI (n))) (C := RX0) (T := TX0) (N := 4) hx hb hts hi0 hown hK hP 0 rfl rfl 3 (by decide) (hts (.fieldLink RX0 22 "BurstWords$Dictionary" "size" "I") (by decide +kernel)) (fun _ h9 => h9) rfl dX0_oftenBegun_8 ?_
      refine n_ge (tgt := 42) hx hb dX0_oftenBegun_11 (by decide) (by omega) (by omega) (fun c_11 => ?_) (fun c_11 => ?_)
      · refine lv_iload_n hx hb dX0_oftenBegun_42 rfl (lv_at hl 2 rfl) ?_
        exact r_i hx hb hr hlocks (by rw [show i = n by omega]) dX0_oftenBegun_43
      · refine lv_lload_n hx hb dX0_oftenBegun_14 rfl (lv_at hl 1 rfl) ?_
        refine lv_aload_n hx hb dX0_oftenBegun_15 rfl (lv_at hl 0 rfl) ?_
        refine lv_iload hx hb dX0_oftenBegun_16 (lv_at hl 3 rfl) ?_
        refine c_Vl (As := [.int (nI (i))]) (rest := [.long (lN (be8 u))]) (ci := 0) (q0 := 0) S (c_X0_wordAt_in l dC dI cI cJ cZ q0 q1 q2 q3 w o d n V O E hD i (by omega)) (cwV 1 hts gX0_oftenBegun_X0_wordAt rfl rfl rfl (by decide +kernel) ⟨Nat.le_of_ble_eq_true rfl, Nat.le_of_ble_eq_true rfl⟩) hK hP rfl rfl rfl hl.1 rfl (Nat.le_of_ble_eq_true rfl) dX0_oftenBegun_18 ⟨Nat.le_of_ble_eq_true rfl, Nat.le_of_ble_eq_true rfl⟩ ?_
        refine c_Si (As := [.long (lN (be8 u)), .long (lN (be8 (V i)))]) (rest := []) S (c_X3_begins l u (V i)) (va_cwS 2 hts gX0_oftenBegun_X3_begins rfl rfl rfl (by decide +kernel) ⟨Nat.le_of_ble_eq_true rfl, Nat.le_of_ble_eq_true rfl⟩) rfl hl.1 rfl (Nat.le_of_ble_eq_true rfl) dX0_oftenBegun_21 ⟨Nat.le_of_ble_eq_true rfl, Nat.le_of_ble_eq_true rfl⟩ ?_
        refine b_eq (tgt := 36) hx hb dX0_oftenBegun_24 (by decide) (fun c_24 => ?_) (fun c_24 => ?_)
        · refine lv_iinc (v := nI (i + 1)) (lv' := [(4, .int (nI (i + 1))), (0, .ref (q0)), (1, .long (lN (be8 u))), (3, .int (nI (fb_sm (fun k => if bsh u (V k) == bln u then O k else 0) i)))]) hx hb dX0_oftenBegun_36 hl (k := 3) rfl (inc1 _) (by decide) rfl (fun ls hl => ?_)
          refine lv_goto (tgt := 5) hx hb dX0_oftenBegun_39 (by decide) ?_
          exact ih_5 (i + 1) (by omega) (by omega) ls (lv_cg (l := [(0, .ref (q0)), (1, .long (lN (be8 u))), (3, .int (nI (fb_sm (fun k => if bsh u (V k) == bln u then O k else 0) i))), (4, .int (nI (i + 1)))]) (lv_sub hl [1, 2, 3, 0] rfl) (by rw [fb_sm_succ, if_neg (by simpa using c_24)]; rfl))
        · refine lv_iload_n hx hb dX0_oftenBegun_27 rfl (lv_at hl 2 rfl) ?_
          refine lv_aload_n hx hb dX0_oftenBegun_28 rfl (lv_at hl 0 rfl) ?_
          refine lv_iload hx hb dX0_oftenBegun_29 (lv_at hl 3 rfl) ?_
          refine c_Vi (As := [.int (nI (i))]) (rest := [.int (nI (fb_sm (fun k => if bsh u (V k) == bln u then O k else 0) i))]) (ci := 0) (q0 := 0) S (c_X0_oftenAt_in l dC dI cI cJ cZ q0 q1 q2 q3 w o d n V O E hD i (by omega)) (cwV 1 hts gX0_oftenBegun_X0_oftenAt rfl rfl rfl (by decide +kernel) ⟨Nat.le_of_ble_eq_true rfl, Nat.le_of_ble_eq_true rfl⟩) hK hP rfl rfl rfl hl.1 rfl (Nat.le_of_ble_eq_true rfl) dX0_oftenBegun_31 ⟨Nat.le_of_ble_eq_true rfl, Nat.le_of_ble_eq_true rfl⟩ ?_
          refine lv_iadd hx hb dX0_oftenBegun_34 ?_
          refine tpi (nI_add _ _) ?_
          refine lv_istore_n (lv' := [(3, .int (nI ((fb_sm (fun k => if bsh u (V k) == bln u then O k else 0) i) + (O i)))), (0, .ref (q0)), (1, .long (lN (be8 u))), (4, .int (nI (i)))]) hx hb dX0_oftenBegun_35 rfl hl (by decide) rfl (fun ls hl => ?_)
          refine lv_iinc (v := nI (i + 1)) (lv' := [(4, .int (nI (i + 1))), (3, .int (nI ((fb_sm (fun k => if bsh u (V k) == bln u then O k else 0) i) + (O i)))), (0, .ref (q0)), (1, .long (lN (be8 u)))]) hx hb dX0_oftenBegun_36 hl (k := 3) rfl (inc1 _) (by decide) rfl (fun ls hl => ?_)
          refine lv_goto (tgt := 5) hx hb dX0_oftenBegun_39 (by decide) ?_
          exact ih_5 (i + 1) (by omega) (by omega) ls (lv_cg (l := [(0, .ref (q0)), (1, .long (lN (be8 u))), (3, .int (nI ((fb_sm (fun k => if bsh u (V k) == bln u then O k else 0) i) + (O i)))), (4, .int (nI (i + 1)))]) (lv_sub hl [2, 3, 1, 0] rfl) (by rw [fb_sm_succ, if_pos (by simpa using c_24)]))
  exact lp_5 _ (0) (by omega) (Nat.lt_succ_self _) ls (lv_sub hl [2, 3, 1, 0] rfl)
abbrev rm_X0_mostSharedWithOthers : Room := { frames := 3, cells := 0, slots := 0, locals := 66 }
set_option maxHeartbeats 4000000 in
set_option maxRecDepth 100000 in
theorem c_X0_mostSharedWithOthers (l : Launch) (dC : Nat → ClassId) (dI : Nat → Nat → Nat) (cI cJ cZ : ClassId) (q0 q1 q2 q3 : Nat) (w : Nat → Int64) (o d : Nat → Int32) (n : Nat) (V O E : Nat → Nat) (hD : bDD w o d n V O E) (v : Nat) (hv : v < 27 ^ 7) : Met l yX0_mostSharedWithOthers wsX0_mostSharedWithOthers rm_X0_mostSharedWithOthers (rPc (dC, dI) (tysA cI cJ cZ) (wd q0 q1 q2 q3 cI cJ w o d n) [.ref (q0), .long (lN (be8 v))]) (Ri (nM (bmx (fun k => if V k = v then 0 else bsh (V k) v + 1) n))) 0 0 (fun _ => False) := by
  refine met_r (cc := cX0_mostSharedWithOthers) (maxL := 5) (ret := (some .int)) (own := RX0) (by decide) rfl rfl (Nat.le_of_ble_eq_true rfl) ?_
  intro p e s m below meth c S hr hlocks hP hK ls hl
  obtain ⟨hx, hb, hml, hown, hts⟩ := id S
  have hl : lv_has ls 5 [(0, .ref (q0)), (1, .long (lN (be8 v)))] := hl
  have hi0 : ∀ w ∈ wsX00, w ∈ wsX0_mostSharedWithOthers := fun _ h => List.mem_cons_of_mem _ (List.mem_append_right _ h)
  obtain ⟨hn, hk⟩ := id hD
  refine lv_iconst (v := nM 0) hx hb dX0_mostSharedWithOthers_0 (by decide) ?_
  refine lv_istore_n (lv' := [(3, .int (nM 0)), (0, .ref (q0)), (1, .long (lN (be8 v)))]) hx hb dX0_mostSharedWithOthers_1 rfl hl (by decide) rfl (fun ls hl => ?_)
  refine lv_iconst (v := nI (0)) hx hb dX0_mostSharedWithOthers_2 (by decide) ?_
  refine lv_istore (lv' := [(4, .int (nI (0))), (3, .int (nM 0)), (0, .ref (q0)), (1, .long (lN (be8 v)))]) hx hb dX0_mostSharedWithOthers_3 hl (by decide) rfl (fun ls hl => ?_)
  have lp_5 : ∀ (j_5 : Nat) (i : Nat), (i ≤ n) → (n - i) < j_5 → ∀ ls : Array Slot, lv_has ls 5 [(0, .ref (q0)), (1, .long (lN (be8 v))), (3, .int (nM (bmx (fun k => if V k = v then 0 else bsh (V k) v + 1) i))), (4, .int (nI (i)))] → W p l e rm_X0_mostSharedWithOthers s m ([.ref (q0), .long (lN (be8 v))] : List Value).toArray below meth c s.heap [] 0 0 (MQ below (Ri (nM (bmx (fun k => if V k = v then 0 else bsh (V k) v + 1) n))) ([.ref (q0), .long (lN (be8 v))] : List Value).toArray s 0 0 (fun _ => False)) (F0 m 5 ls []) := by
    intro j_5
    induction j_5 with
    | zero => intro i _ h0; exact absurd h0 (Nat.not_lt_zero _)
    | succ j_5 ih_5 =>
      intro i hi hf_5 ls hl
      refine lv_iload hx hb dX0_mostSharedWithOthers_5 (lv_at hl 3 rfl) ?_
      refine lv_aload_n hx hb dX0_mostSharedWithOthers_7 rfl (lv_at hl 0 rfl) ?_
      refine va_get (D := (dC, dI)) (ci := 0) (v := .int (nI (n))) (C := RX0) (T := TX0) (N := 4) hx hb hts hi0 hown hK hP 0 rfl rfl 3 (by decide) (hts (.fieldLink RX0 22 "BurstWords$Dictionary" "size" "I") (by decide +kernel)) (fun _ h9 => h9) rfl dX0_mostSharedWithOthers_8 ?_
      refine n_ge (tgt := 46) hx hb dX0_mostSharedWithOthers_11 (by decide) (by omega) (by omega) (fun c_11 => ?_) (fun c_11 => ?_)
      · refine lv_iload_n hx hb dX0_mostSharedWithOthers_46 rfl (lv_at hl 2 rfl) ?_
        exact r_i hx hb hr hlocks (by rw [show i = n by omega]) dX0_mostSharedWithOthers_47
      · refine lv_aload_n hx hb dX0_mostSharedWithOthers_14 rfl (lv_at hl 0 rfl) ?_
        refine lv_iload hx hb dX0_mostSharedWithOthers_15 (lv_at hl 3 rfl) ?_
        refine c_Vl (As := [.int (nI (i))]) (rest := []) (ci := 0) (q0 := 0) S (c_X0_wordAt_in l dC dI cI cJ cZ q0 q1 q2 q3 w o d n V O E hD i (by omega)) (cwV 1 hts gX0_mostSharedWithOthers_X0_wordAt rfl rfl rfl (by decide +kernel) ⟨Nat.le_of_ble_eq_true rfl, Nat.le_of_ble_eq_true rfl⟩) hK hP rfl rfl rfl hl.1 rfl (Nat.le_of_ble_eq_true rfl) dX0_mostSharedWithOthers_17 ⟨Nat.le_of_ble_eq_true rfl, Nat.le_of_ble_eq_true rfl⟩ ?_
        refine lv_lload_n hx hb dX0_mostSharedWithOthers_20 rfl (lv_at hl 1 rfl) ?_
        refine q_eq (tgt := 40) hx hb dX0_mostSharedWithOthers_21 dX0_mostSharedWithOthers_22 (by decide) (be8_63 _) (be8_63 _) (fun c_21 => ?_) (fun c_21 => ?_)
        · refine lv_iinc (v := nI (i + 1)) (lv' := [(4, .int (nI (i + 1))), (0, .ref (q0)), (1, .long (lN (be8 v))), (3, .int (nM (bmx (fun k => if V k = v then 0 else bsh (V k) v + 1) i)))]) hx hb dX0_mostSharedWithOthers_40 hl (k := 3) rfl (inc1 _) (by decide) rfl (fun ls hl => ?_)
          refine lv_goto (tgt := 5) hx hb dX0_mostSharedWithOthers_43 (by decide) ?_
          exact ih_5 (i + 1) (by omega) (by omega) ls (lv_cg (l := [(0, .ref (q0)), (1, .long (lN (be8 v))), (3, .int (nM (bmx (fun k => if V k = v then 0 else bsh (V k) v + 1) i))), (4, .int (nI (i + 1)))]) (lv_sub hl [1, 2, 3, 0] rfl) (by rw [bmx, if_pos ((be8_eqI (hk i c_11).2.1.1 hv).mp c_21), Nat.max_zero]))
        · refine lv_iload_n hx hb dX0_mostSharedWithOthers_25 rfl (lv_at hl 2 rfl) ?_
          refine lv_aload_n hx hb dX0_mostSharedWithOthers_26 rfl (lv_at hl 0 rfl) ?_
          refine lv_iload hx hb dX0_mostSharedWithOthers_27 (lv_at hl 3 rfl) ?_
          refine c_Vl (As := [.int (nI (i))]) (rest := [.int (nM (bmx (fun k => if V k = v then 0 else bsh (V k) v + 1) i))]) (ci := 0) (q0 := 0) S (c_X0_wordAt_in l dC dI cI cJ cZ q0 q1 q2 q3 w o d n V O E hD i (by omega)) (cwV 1 hts gX0_mostSharedWithOthers_X0_wordAt rfl rfl rfl (by decide +kernel) ⟨Nat.le_of_ble_eq_true rfl, Nat.le_of_ble_eq_true rfl⟩) hK hP rfl rfl rfl hl.1 rfl (Nat.le_of_ble_eq_true rfl) dX0_mostSharedWithOthers_29 ⟨Nat.le_of_ble_eq_true rfl, Nat.le_of_ble_eq_true rfl⟩ ?_
          refine lv_lload_n hx hb dX0_mostSharedWithOthers_32 rfl (lv_at hl 1 rfl) ?_
          refine c_Si (As := [.long (lN (be8 (V i))), .long (lN (be8 v))]) (rest := [.int (nM (bmx (fun k => if V k = v then 0 else bsh (V k) v + 1) i))]) S (c_X3_sharedBy l (V i) v) (va_cwS 2 hts gX0_mostSharedWithOthers_X3_sharedBy rfl rfl rfl (by decide +kernel) ⟨Nat.le_of_ble_eq_true rfl, Nat.le_of_ble_eq_true rfl⟩) rfl hl.1 rfl (Nat.le_of_ble_eq_true rfl) dX0_mostSharedWithOthers_33 ⟨Nat.le_of_ble_eq_true rfl, Nat.le_of_ble_eq_true rfl⟩ ?_
          refine va_mmax hx hb (hml.trans hl.1.symm) hown (hts (.methodLink RX0 74 Lib.Math.max.name) (by decide +kernel)) (hts (.static Lib.Math.max.name) (by decide +kernel)) (hts (.initialized "java/lang/Math") (by decide +kernel)) (hts (.code Lib.Math.max.name Lib.Math.max.code 2 (some .int)) (by decide +kernel)) (Nat.le_of_ble_eq_true rfl) (Nat.le_of_ble_eq_true rfl) (Nat.le_of_ble_eq_true rfl) (Nat.le_of_ble_eq_true rfl) dX0_mostSharedWithOthers_36 ?_
          refine tpi (nmaxm (Nat.lt_of_le_of_lt (bmx_le (c := 8) (fun k _ => by have := bsh_le (V k) v; split <;> omega)) (by decide)) (Nat.lt_of_le_of_lt (bsh_le _ _) (by decide))) ?_
          refine lv_istore_n (lv' := [(3, .int (nM (max ((bmx (fun k => if V k = v then 0 else bsh (V k) v + 1) i)) (bsh (V i) v + 1)))), (0, .ref (q0)), (1, .long (lN (be8 v))), (4, .int (nI (i)))]) hx hb dX0_mostSharedWithOthers_39 rfl hl (by decide) rfl (fun ls hl => ?_)
          refine lv_iinc (v := nI (i + 1)) (lv' := [(4, .int (nI (i + 1))), (3, .int (nM (max ((bmx (fun k => if V k = v then 0 else bsh (V k) v + 1) i)) (bsh (V i) v + 1)))), (0, .ref (q0)), (1, .long (lN (be8 v)))]) hx hb dX0_mostSharedWithOthers_40 hl (k := 3) rfl (inc1 _) (by decide) rfl (fun ls hl => ?_)
          refine lv_goto (tgt := 5) hx hb dX0_mostSharedWithOthers_43 (by decide) ?_
          exact ih_5 (i + 1) (by omega) (by omega) ls (lv_cg (l := [(0, .ref (q0)), (1, .long (lN (be8 v))), (3, .int (nM (max ((bmx (fun k => if V k = v then 0 else bsh (V k) v + 1) i)) (bsh (V i) v + 1)))), (4, .int (nI (i + 1)))]) (lv_sub hl [2, 3, 1, 0] rfl) (by rw [bmx, if_neg (fun q => c_21 (congrArg be8 q))]))
  exact lp_5 _ (0) (by omega) (Nat.lt_succ_self _) ls (lv_sub hl [2, 3, 1, 0] rfl)
abbrev rm_X0_longestIn : Room := { frames := 4, cells := 0, slots := 0, locals := 89 }
set_option maxHeartbeats 4000000 in
set_option maxRecDepth 100000 in
theorem c_X0_longestIn (l : Launch) (dC : Nat → ClassId) (dI : Nat → Nat → Nat) (cI cJ cZ : ClassId) (q0 q1 q2 q3 : Nat) (w : Nat → Int64) (o d : Nat → Int32) (n : Nat) (V O E : Nat → Nat) (hD : bDD w o d n V O E) (v : Nat) : Met l yX0_longestIn wsX0_longestIn rm_X0_longestIn (rPc (dC, dI) (tysA cI cJ cZ) (wd q0 q1 q2 q3 cI cJ w o d n) [.ref (q0), .long (lN (be8 v))]) (Ri (nI (bmx (fun k => if bsh (V k) v == bln (V k) then bln (V k) else 0) n))) 0 0 (fun _ => False) := by
  refine met_r (cc := cX0_longestIn) (maxL := 5) (ret := (some .int)) (own := RX0) (by decide) rfl rfl (Nat.le_of_ble_eq_true rfl) ?_
  intro p e s m below meth c S hr hlocks hP hK ls hl
  obtain ⟨hx, hb, hml, hown, hts⟩ := id S
  have hl : lv_has ls 5 [(0, .ref (q0)), (1, .long (lN (be8 v)))] := hl
  have hi0 : ∀ w ∈ wsX00, w ∈ wsX0_longestIn := fun _ h => List.mem_cons_of_mem _ (List.mem_append_right _ h)
  obtain ⟨hn, hk⟩ := id hD
  refine lv_iconst (v := nI (0)) hx hb dX0_longestIn_0 (by decide) ?_
  refine lv_istore_n (lv' := [(3, .int (nI (0))), (0, .ref (q0)), (1, .long (lN (be8 v)))]) hx hb dX0_longestIn_1 rfl hl (by decide) rfl (fun ls hl => ?_)
  refine lv_iconst (v := nI (0)) hx hb dX0_longestIn_2 (by decide) ?_
  refine lv_istore (lv' := [(4, .int (nI (0))), (3, .int (nI (0))), (0, .ref (q0)), (1, .long (lN (be8 v)))]) hx hb dX0_longestIn_3 hl (by decide) rfl (fun ls hl => ?_)
  have lp_5 : ∀ (j_5 : Nat) (i : Nat), (i ≤ n) → (n - i) < j_5 → ∀ ls : Array Slot, lv_has ls 5 [(0, .ref (q0)), (1, .long (lN (be8 v))), (3, .int (nI (bmx (fun k => if bsh (V k) v == bln (V k) then bln (V k) else 0) i))), (4, .int (nI (i)))] → W p l e rm_X0_longestIn s m ([.ref (q0), .long (lN (be8 v))] : List Value).toArray below meth c s.heap [] 0 0 (MQ below (Ri (nI (bmx (fun k => if bsh (V k) v == bln (V k) then bln (V k) else 0) n))) ([.ref (q0), .long (lN (be8 v))] : List Value).toArray s 0 0 (fun _ => False)) (F0 m 5 ls []) := by
    intro j_5
    induction j_5 with
    | zero => intro i _ h0; exact absurd h0 (Nat.not_lt_zero _)
    | succ j_5 ih_5 =>
      intro i hi hf_5 ls hl
      refine lv_iload hx hb dX0_longestIn_5 (lv_at hl 3 rfl) ?_
      refine lv_aload_n hx hb dX0_longestIn_7 rfl (lv_at hl 0 rfl) ?_
      refine va_get (D := (dC, dI)) (ci := 0) (v := .int (nI (n))) (C := RX0) (T := TX0) (N := 4) hx hb hts hi0 hown hK hP 0 rfl rfl 3 (by decide) (hts (.fieldLink RX0 22 "BurstWords$Dictionary" "size" "I") (by decide +kernel)) (fun _ h9 => h9) rfl dX0_longestIn_8 ?_
      refine n_ge (tgt := 47) hx hb dX0_longestIn_11 (by decide) (by omega) (by omega) (fun c_11 => ?_) (fun c_11 => ?_)
      · refine lv_iload_n hx hb dX0_longestIn_47 rfl (lv_at hl 2 rfl) ?_
        exact r_i hx hb hr hlocks (by rw [show i = n by omega]) dX0_longestIn_48
      · refine lv_aload_n hx hb dX0_longestIn_14 rfl (lv_at hl 0 rfl) ?_
        refine lv_iload hx hb dX0_longestIn_15 (lv_at hl 3 rfl) ?_
        refine c_Vl (As := [.int (nI (i))]) (rest := []) (ci := 0) (q0 := 0) S (c_X0_wordAt_in l dC dI cI cJ cZ q0 q1 q2 q3 w o d n V O E hD i (by omega)) (cwV 1 hts gX0_longestIn_X0_wordAt rfl rfl rfl (by decide +kernel) ⟨Nat.le_of_ble_eq_true rfl, Nat.le_of_ble_eq_true rfl⟩) hK hP rfl rfl rfl hl.1 rfl (Nat.le_of_ble_eq_true rfl) dX0_longestIn_17 ⟨Nat.le_of_ble_eq_true rfl, Nat.le_of_ble_eq_true rfl⟩ ?_
        refine lv_lload_n hx hb dX0_longestIn_20 rfl (lv_at hl 1 rfl) ?_
        refine c_Si (As := [.long (lN (be8 (V i))), .long (lN (be8 v))]) (rest := []) S (c_X3_begins l (V i) v) (va_cwS 2 hts gX0_longestIn_X3_begins rfl rfl rfl (by decide +kernel) ⟨Nat.le_of_ble_eq_true rfl, Nat.le_of_ble_eq_true rfl⟩) rfl hl.1 rfl (Nat.le_of_ble_eq_true rfl) dX0_longestIn_21 ⟨Nat.le_of_ble_eq_true rfl, Nat.le_of_ble_eq_true rfl⟩ ?_
        refine b_eq (tgt := 41) hx hb dX0_longestIn_24 (by decide) (fun c_24 => ?_) (fun c_24 => ?_)
        · refine lv_iinc (v := nI (i + 1)) (lv' := [(4, .int (nI (i + 1))), (0, .ref (q0)), (1, .long (lN (be8 v))), (3, .int (nI (bmx (fun k => if bsh (V k) v == bln (V k) then bln (V k) else 0) i)))]) hx hb dX0_longestIn_41 hl (k := 3) rfl (inc1 _) (by decide) rfl (fun ls hl => ?_)
          refine lv_goto (tgt := 5) hx hb dX0_longestIn_44 (by decide) ?_
          exact ih_5 (i + 1) (by omega) (by omega) ls (lv_cg (l := [(0, .ref (q0)), (1, .long (lN (be8 v))), (3, .int (nI (bmx (fun k => if bsh (V k) v == bln (V k) then bln (V k) else 0) i))), (4, .int (nI (i + 1)))]) (lv_sub hl [1, 2, 3, 0] rfl) (by rw [bmx, if_neg (by simpa using c_24), Nat.max_zero]))
        · refine lv_iload_n hx hb dX0_longestIn_27 rfl (lv_at hl 2 rfl) ?_
          refine lv_aload_n hx hb dX0_longestIn_28 rfl (lv_at hl 0 rfl) ?_
          refine lv_iload hx hb dX0_longestIn_29 (lv_at hl 3 rfl) ?_
          refine c_Vl (As := [.int (nI (i))]) (rest := [.int (nI (bmx (fun k => if bsh (V k) v == bln (V k) then bln (V k) else 0) i))]) (ci := 0) (q0 := 0) S (c_X0_wordAt_in l dC dI cI cJ cZ q0 q1 q2 q3 w o d n V O E hD i (by omega)) (cwV 1 hts gX0_longestIn_X0_wordAt rfl rfl rfl (by decide +kernel) ⟨Nat.le_of_ble_eq_true rfl, Nat.le_of_ble_eq_true rfl⟩) hK hP rfl rfl rfl hl.1 rfl (Nat.le_of_ble_eq_true rfl) dX0_longestIn_31 ⟨Nat.le_of_ble_eq_true rfl, Nat.le_of_ble_eq_true rfl⟩ ?_
          refine c_Si (As := [.long (lN (be8 (V i)))]) (rest := [.int (nI (bmx (fun k => if bsh (V k) v == bln (V k) then bln (V k) else 0) i))]) S (c_X3_lengthOf l (V i)) (va_cwS 1 hts gX0_longestIn_X3_lengthOf rfl rfl rfl (by decide +kernel) ⟨Nat.le_of_ble_eq_true rfl, Nat.le_of_ble_eq_true rfl⟩) rfl hl.1 rfl (Nat.le_of_ble_eq_true rfl) dX0_longestIn_34 ⟨Nat.le_of_ble_eq_true rfl, Nat.le_of_ble_eq_true rfl⟩ ?_
          refine va_mmax hx hb (hml.trans hl.1.symm) hown (hts (.methodLink RX0 74 Lib.Math.max.name) (by decide +kernel)) (hts (.static Lib.Math.max.name) (by decide +kernel)) (hts (.initialized "java/lang/Math") (by decide +kernel)) (hts (.code Lib.Math.max.name Lib.Math.max.code 2 (some .int)) (by decide +kernel)) (Nat.le_of_ble_eq_true rfl) (Nat.le_of_ble_eq_true rfl) (Nat.le_of_ble_eq_true rfl) (Nat.le_of_ble_eq_true rfl) dX0_longestIn_37 ?_
          refine tpi (nmax (Nat.lt_of_le_of_lt (bmx_le (c := 7) (fun k _ => by have := bln_le (V k); split <;> omega)) (by decide)) (Nat.lt_of_le_of_lt (bln_le _) (by decide))) ?_
          refine lv_istore_n (lv' := [(3, .int (nI (max (bmx (fun k => if bsh (V k) v == bln (V k) then bln (V k) else 0) i) (bln (V i))))), (0, .ref (q0)), (1, .long (lN (be8 v))), (4, .int (nI (i)))]) hx hb dX0_longestIn_40 rfl hl (by decide) rfl (fun ls hl => ?_)
          refine lv_iinc (v := nI (i + 1)) (lv' := [(4, .int (nI (i + 1))), (3, .int (nI (max (bmx (fun k => if bsh (V k) v == bln (V k) then bln (V k) else 0) i) (bln (V i))))), (0, .ref (q0)), (1, .long (lN (be8 v)))]) hx hb dX0_longestIn_41 hl (k := 3) rfl (inc1 _) (by decide) rfl (fun ls hl => ?_)
          refine lv_goto (tgt := 5) hx hb dX0_longestIn_44 (by decide) ?_
          exact ih_5 (i + 1) (by omega) (by omega) ls (lv_cg (l := [(0, .ref (q0)), (1, .long (lN (be8 v))), (3, .int (nI (max (bmx (fun k => if bsh (V k) v == bln (V k) then bln (V k) else 0) i) (bln (V i))))), (4, .int (nI (i + 1)))]) (lv_sub hl [2, 3, 1, 0] rfl) (by rw [bmx, if_pos (by simpa using c_24)]))
  exact lp_5 _ (0) (by omega) (Nat.lt_succ_self _) ls (lv_sub hl [2, 3, 1, 0] rfl)
abbrev rm_X0_alike : Room := { frames := 3, cells := 0, slots := 0, locals := 67 }
set_option maxHeartbeats 4000000 in
set_option maxRecDepth 100000 in
theorem c_X0_alike (l : Launch) (dC : Nat → ClassId) (dI : Nat → Nat → Nat) (cI cJ cZ : ClassId) (q0 q1 q2 q3 : Nat) (w : Nat → Int64) (o d : Nat → Int32) (n : Nat) (V O E : Nat → Nat) (hD : bDD w o d n V O E) (v : Nat) (g : Nat) (hg : g ≤ 7) : Met l yX0_alike wsX0_alike rm_X0_alike (rPc (dC, dI) (tysA cI cJ cZ) (wd q0 q1 q2 q3 cI cJ w o d n) [.ref (q0), .long (lN (be8 v)), .int (nI (g))]) (Ri (nI (fb_ct (fun k => bln (V k) == bln v && decide (fb_ct (fun i => bsg (V k) i != bsg v i) 7 ≤ g)) n))) 0 0 (fun _ => False) := by
  refine met_r (cc := cX0_alike) (maxL := 7) (ret := (some .int)) (own := RX0) (by decide) rfl rfl (Nat.le_of_ble_eq_true rfl) ?_
  intro p e s m below meth c S hr hlocks hP hK ls hl
  obtain ⟨hx, hb, hml, hown, hts⟩ := id S
  have hl : lv_has ls 7 [(0, .ref (q0)), (1, .long (lN (be8 v))), (3, .int (nI (g)))] := hl
  have hi0 : ∀ w ∈ wsX00, w ∈ wsX0_alike := fun _ h => List.mem_cons_of_mem _ (List.mem_append_right _ h)
  obtain ⟨hn, hk⟩ := id hD
  refine lv_lload_n hx hb dX0_alike_0 rfl (lv_at hl 1 rfl) ?_
  refine c_Si (As := [.long (lN (be8 v))]) (rest := []) S (c_X3_lengthOf l v) (va_cwS 1 hts gX0_alike_X3_lengthOf rfl rfl rfl (by decide +kernel) ⟨Nat.le_of_ble_eq_true rfl, Nat.le_of_ble_eq_true rfl⟩) rfl hl.1 rfl (Nat.le_of_ble_eq_true rfl) dX0_alike_1 ⟨Nat.le_of_ble_eq_true rfl, Nat.le_of_ble_eq_true rfl⟩ ?_
  refine lv_istore (lv' := [(4, .int (nI (bln v))), (0, .ref (q0)), (1, .long (lN (be8 v))), (3, .int (nI (g)))]) hx hb dX0_alike_4 hl (by decide) rfl (fun ls hl => ?_)
  refine lv_iconst (v := nI (0)) hx hb dX0_alike_6 (by decide) ?_
  refine lv_istore (lv' := [(5, .int (nI (0))), (4, .int (nI (bln v))), (0, .ref (q0)), (1, .long (lN (be8 v))), (3, .int (nI (g)))]) hx hb dX0_alike_7 hl (by decide) rfl (fun ls hl => ?_)
  refine lv_iconst (v := nI (0)) hx hb dX0_alike_9 (by decide) ?_
  refine lv_istore (lv' := [(6, .int (nI (0))), (5, .int (nI (0))), (4, .int (nI (bln v))), (0, .ref (q0)), (1, .long (lN (be8 v))), (3, .int (nI (g)))]) hx hb dX0_alike_10 hl (by decide) rfl (fun ls hl => ?_)
  have lp_12 : ∀ (j_12 : Nat) (i : Nat), (i ≤ n) → (n - i) < j_12 → ∀ ls : Array Slot, lv_has ls 7 [(0, .ref (q0)), (1, .long (lN (be8 v))), (3, .int (nI (g))), (4, .int (nI (bln v))), (5, .int (nI (fb_ct (fun k => bln (V k) == bln v && decide (fb_ct (fun i => bsg (V k) i != bsg v i) 7 ≤ g)) i))), (6, .int (nI (i)))] → W p l e rm_X0_alike s m ([.ref (q0), .long (lN (be8 v)), .int (nI (g))] : List Value).toArray below meth c s.heap [] 0 0 (MQ below (Ri (nI (fb_ct (fun k => bln (V k) == bln v && decide (fb_ct (fun i => bsg (V k) i != bsg v i) 7 ≤ g)) n))) ([.ref (q0), .long (lN (be8 v)), .int (nI (g))] : List Value).toArray s 0 0 (fun _ => False)) (F0 m 12 ls []) := by
    intro j_12
    induction j_12 with
    | zero => intro i _ h0; exact absurd h0 (Nat.not_lt_zero _)
    | succ j_12 ih_12 =>
      intro i hi hf_12 ls hl
      refine lv_iload hx hb dX0_alike_12 (lv_at hl 5 rfl) ?_
      refine lv_aload_n hx hb dX0_alike_14 rfl (lv_at hl 0 rfl) ?_
      refine va_get (D := (dC, dI)) (ci := 0) (v := .int (nI (n))) (C := RX0) (T := TX0) (N := 4) hx hb hts hi0 hown hK hP 0 rfl rfl 3 (by decide) (hts (.fieldLink RX0 22 "BurstWords$Dictionary" "size" "I") (by decide +kernel)) (fun _ h9 => h9) rfl dX0_alike_15 ?_
      refine n_ge (tgt := 58) hx hb dX0_alike_18 (by decide) (by omega) (by omega) (fun c_18 => ?_) (fun c_18 => ?_)
      · refine lv_iload hx hb dX0_alike_58 (lv_at hl 4 rfl) ?_
        exact r_i hx hb hr hlocks (by rw [show i = n by omega]) dX0_alike_60
      · refine lv_aload_n hx hb dX0_alike_21 rfl (lv_at hl 0 rfl) ?_
        refine lv_iload hx hb dX0_alike_22 (lv_at hl 5 rfl) ?_
        refine c_Vl (As := [.int (nI (i))]) (rest := []) (ci := 0) (q0 := 0) S (c_X0_wordAt_in l dC dI cI cJ cZ q0 q1 q2 q3 w o d n V O E hD i (by omega)) (cwV 1 hts gX0_alike_X0_wordAt rfl rfl rfl (by decide +kernel) ⟨Nat.le_of_ble_eq_true rfl, Nat.le_of_ble_eq_true rfl⟩) hK hP rfl rfl rfl hl.1 rfl (Nat.le_of_ble_eq_true rfl) dX0_alike_24 ⟨Nat.le_of_ble_eq_true rfl, Nat.le_of_ble_eq_true rfl⟩ ?_
        refine c_Si (As := [.long (lN (be8 (V i)))]) (rest := []) S (c_X3_lengthOf l (V i)) (va_cwS 1 hts gX0_alike_X3_lengthOf rfl rfl rfl (by decide +kernel) ⟨Nat.le_of_ble_eq_true rfl, Nat.le_of_ble_eq_true rfl⟩) rfl hl.1 rfl (Nat.le_of_ble_eq_true rfl) dX0_alike_27 ⟨Nat.le_of_ble_eq_true rfl, Nat.le_of_ble_eq_true rfl⟩ ?_
        refine lv_iload hx hb dX0_alike_30 (lv_at hl 3 rfl) ?_
        refine n_ne (tgt := 52) hx hb dX0_alike_32 (by decide) (Nat.lt_of_le_of_lt (bln_le _) (by decide)) (Nat.lt_of_le_of_lt (bln_le _) (by decide)) (fun c_32 => ?_) (fun c_32 => ?_)
        · refine lv_iinc (v := nI (i + 1)) (lv' := [(6, .int (nI (i + 1))), (0, .ref (q0)), (1, .long (lN (be8 v))), (3, .int (nI (g))), (4, .int (nI (bln v))), (5, .int (nI (fb_ct (fun k => bln (V k) == bln v && decide (fb_ct (fun i => bsg (V k) i != bsg v i) 7 ≤ g)) i)))]) hx hb dX0_alike_52 hl (k := 5) rfl (inc1 _) (by decide) rfl (fun ls hl => ?_)
          refine lv_goto (tgt := 12) hx hb dX0_alike_55 (by decide) ?_
          exact ih_12 (i + 1) (by omega) (by omega) ls (lv_cg (l := [(0, .ref (q0)), (1, .long (lN (be8 v))), (3, .int (nI (g))), (4, .int (nI (bln v))), (5, .int (nI (fb_ct (fun k => bln (V k) == bln v && decide (fb_ct (fun i => bsg (V k) i != bsg v i) 7 ≤ g)) i))), (6, .int (nI (i + 1)))]) (lv_sub hl [1, 2, 3, 4, 5, 0] rfl) (by rw [ct_n (p := (fun k => bln (V k) == bln v && decide (fb_ct (fun i => bsg (V k) i != bsg v i) 7 ≤ g))) (n := i) (by simp [c_32])]))
        · refine lv_aload_n hx hb dX0_alike_35 rfl (lv_at hl 0 rfl) ?_
          refine lv_iload hx hb dX0_alike_36 (lv_at hl 5 rfl) ?_
          refine c_Vl (As := [.int (nI (i))]) (rest := []) (ci := 0) (q0 := 0) S (c_X0_wordAt_in l dC dI cI cJ cZ q0 q1 q2 q3 w o d n V O E hD i (by omega)) (cwV 1 hts gX0_alike_X0_wordAt rfl rfl rfl (by decide +kernel) ⟨Nat.le_of_ble_eq_true rfl, Nat.le_of_ble_eq_true rfl⟩) hK hP rfl rfl rfl hl.1 rfl (Nat.le_of_ble_eq_true rfl) dX0_alike_38 ⟨Nat.le_of_ble_eq_true rfl, Nat.le_of_ble_eq_true rfl⟩ ?_
          refine lv_lload_n hx hb dX0_alike_41 rfl (lv_at hl 1 rfl) ?_
          refine c_Si (As := [.long (lN (be8 (V i))), .long (lN (be8 v))]) (rest := []) S (c_X3_differences l (V i) v) (va_cwS 2 hts gX0_alike_X3_differences rfl rfl rfl (by decide +kernel) ⟨Nat.le_of_ble_eq_true rfl, Nat.le_of_ble_eq_true rfl⟩) rfl hl.1 rfl (Nat.le_of_ble_eq_true rfl) dX0_alike_42 ⟨Nat.le_of_ble_eq_true rfl, Nat.le_of_ble_eq_true rfl⟩ ?_
          refine lv_iload_n hx hb dX0_alike_45 rfl (lv_at hl 2 rfl) ?_
          refine n_gt (tgt := 52) hx hb dX0_alike_46 (by decide) (Nat.lt_of_le_of_lt (fb_ct_le _ _) (by decide)) (by omega) (fun c_46 => ?_) (fun c_46 => ?_)
          · refine lv_iinc (v := nI (i + 1)) (lv' := [(6, .int (nI (i + 1))), (0, .ref (q0)), (1, .long (lN (be8 v))), (3, .int (nI (g))), (4, .int (nI (bln v))), (5, .int (nI (fb_ct (fun k => bln (V k) == bln v && decide (fb_ct (fun i => bsg (V k) i != bsg v i) 7 ≤ g)) i)))]) hx hb dX0_alike_52 hl (k := 5) rfl (inc1 _) (by decide) rfl (fun ls hl => ?_)
            refine lv_goto (tgt := 12) hx hb dX0_alike_55 (by decide) ?_
            exact ih_12 (i + 1) (by omega) (by omega) ls (lv_cg (l := [(0, .ref (q0)), (1, .long (lN (be8 v))), (3, .int (nI (g))), (4, .int (nI (bln v))), (5, .int (nI (fb_ct (fun k => bln (V k) == bln v && decide (fb_ct (fun i => bsg (V k) i != bsg v i) 7 ≤ g)) i))), (6, .int (nI (i + 1)))]) (lv_sub hl [1, 2, 3, 4, 5, 0] rfl) (by rw [ct_n (p := (fun k => bln (V k) == bln v && decide (fb_ct (fun i => bsg (V k) i != bsg v i) 7 ≤ g))) (n := i) (by simp [c_32]; omega)]))
          · refine lv_iinc (v := nI ((fb_ct (fun k => bln (V k) == bln v && decide (fb_ct (fun i => bsg (V k) i != bsg v i) 7 ≤ g)) i) + 1)) (lv' := [(5, .int (nI ((fb_ct (fun k => bln (V k) == bln v && decide (fb_ct (fun i => bsg (V k) i != bsg v i) 7 ≤ g)) i) + 1))), (0, .ref (q0)), (1, .long (lN (be8 v))), (3, .int (nI (g))), (4, .int (nI (bln v))), (6, .int (nI (i)))]) hx hb dX0_alike_49 hl (k := 4) rfl (inc1 _) (by decide) rfl (fun ls hl => ?_)
            refine lv_iinc (v := nI (i + 1)) (lv' := [(6, .int (nI (i + 1))), (5, .int (nI ((fb_ct (fun k => bln (V k) == bln v && decide (fb_ct (fun i => bsg (V k) i != bsg v i) 7 ≤ g)) i) + 1))), (0, .ref (q0)), (1, .long (lN (be8 v))), (3, .int (nI (g))), (4, .int (nI (bln v)))]) hx hb dX0_alike_52 hl (k := 5) rfl (inc1 _) (by decide) rfl (fun ls hl => ?_)
            refine lv_goto (tgt := 12) hx hb dX0_alike_55 (by decide) ?_
            exact ih_12 (i + 1) (by omega) (by omega) ls (lv_cg (l := [(0, .ref (q0)), (1, .long (lN (be8 v))), (3, .int (nI (g))), (4, .int (nI (bln v))), (5, .int (nI ((fb_ct (fun k => bln (V k) == bln v && decide (fb_ct (fun i => bsg (V k) i != bsg v i) 7 ≤ g)) i) + 1))), (6, .int (nI (i + 1)))]) (lv_sub hl [2, 3, 4, 5, 1, 0] rfl) (by rw [ct_y (p := (fun k => bln (V k) == bln v && decide (fb_ct (fun i => bsg (V k) i != bsg v i) 7 ≤ g))) (n := i) (by simp [c_32]; omega)]))
  exact lp_12 _ (0) (by omega) (Nat.lt_succ_self _) ls (lv_sub hl [3, 4, 5, 2, 1, 0] rfl)
abbrev rm_X0_holderOf : Room := { frames := 2, cells := 0, slots := 0, locals := 42 }
set_option maxHeartbeats 4000000 in
set_option maxRecDepth 100000 in
theorem c_X0_holderOf (l : Launch) (dC : Nat → ClassId) (dI : Nat → Nat → Nat) (cI cJ cZ : ClassId) (q0 q1 q2 q3 : Nat) (w : Nat → Int64) (o d : Nat → Int32) (n : Nat) (V O E : Nat → Nat) (hD : bDD w o d n V O E) (k : Nat) (hk31 : k < 2 ^ 31) : Met l yX0_holderOf wsX0_holderOf rm_X0_holderOf (rPc (dC, dI) (tysA cI cJ cZ) (wd q0 q1 q2 q3 cI cJ w o d n) [.ref (q0), .int (nI (k))]) (Ri (bopt n (bfs (fun i => decide (k < fb_sm O (i + 1))) n))) 0 0 (fun _ => False) := by
  refine met_r (cc := cX0_holderOf) (maxL := 4) (ret := (some .int)) (own := RX0) (by decide) rfl rfl (Nat.le_of_ble_eq_true rfl) ?_
  intro p e s m below meth c S hr hlocks hP hK ls hl
  obtain ⟨hx, hb, hml, hown, hts⟩ := id S
  have hl : lv_has ls 4 [(0, .ref (q0)), (1, .int (nI (k)))] := hl
  have hi0 : ∀ w ∈ wsX00, w ∈ wsX0_holderOf := fun _ h => List.mem_cons_of_mem _ (List.mem_append_right _ h)
  obtain ⟨hn, hk⟩ := id hD
  refine lv_iload_n hx hb dX0_holderOf_0 rfl (lv_at hl 1 rfl) ?_
  refine lv_istore_n (lv' := [(2, .int (nI (k))), (0, .ref (q0)), (1, .int (nI (k)))]) hx hb dX0_holderOf_1 rfl hl (by decide) rfl (fun ls hl => ?_)
  refine lv_iconst (v := nI (0)) hx hb dX0_holderOf_2 (by decide) ?_
  refine lv_istore_n (lv' := [(3, .int (nI (0))), (2, .int (nI (k))), (0, .ref (q0)), (1, .int (nI (k)))]) hx hb dX0_holderOf_3 rfl hl (by decide) rfl (fun ls hl => ?_)
  have lp_4 : ∀ (j_4 : Nat) (i : Nat), (i ≤ n) → (fb_sm O i ≤ k) → (∀ j, j < i → fb_sm O (j + 1) ≤ k) → (n - i) < j_4 → ∀ ls : Array Slot, lv_has ls 4 [(0, .ref (q0)), (2, .int (nI (k - fb_sm O i))), (3, .int (nI (i)))] → W p l e rm_X0_holderOf s m ([.ref (q0), .int (nI (k))] : List Value).toArray below meth c s.heap [] 0 0 (MQ below (Ri (bopt n (bfs (fun i => decide (k < fb_sm O (i + 1))) n))) ([.ref (q0), .int (nI (k))] : List Value).toArray s 0 0 (fun _ => False)) (F0 m 4 ls []) := by
    intro j_4
    induction j_4 with
    | zero => intro i _ _ _ h0; exact absurd h0 (Nat.not_lt_zero _)
    | succ j_4 ih_4 =>
      intro i hi hs hz hf_4 ls hl
      refine lv_iload_n hx hb dX0_holderOf_4 rfl (lv_at hl 2 rfl) ?_
      refine lv_aload_n hx hb dX0_holderOf_5 rfl (lv_at hl 0 rfl) ?_
      refine va_get (D := (dC, dI)) (ci := 0) (v := .int (nI (n))) (C := RX0) (T := TX0) (N := 4) hx hb hts hi0 hown hK hP 0 rfl rfl 3 (by decide) (hts (.fieldLink RX0 22 "BurstWords$Dictionary" "size" "I") (by decide +kernel)) (fun _ h9 => h9) rfl dX0_holderOf_6 ?_
      refine n_ge (tgt := 37) hx hb dX0_holderOf_9 (by decide) (by omega) (by omega) (fun c_9 => ?_) (fun c_9 => ?_)
      · refine lv_iconst (v := (-1 : Int32)) hx hb dX0_holderOf_37 (by decide) ?_
        exact r_i hx hb hr hlocks (by rw [show bfs (fun i => decide (k < fb_sm O (i + 1))) n = n from bfs_eq (Nat.le_refl n) (fun j h => by simpa using hz j (by omega)) (fun h => absurd h (Nat.lt_irrefl n))]; exact (if_neg (Nat.lt_irrefl n)).symm) dX0_holderOf_38
      · refine lv_iload_n hx hb dX0_holderOf_12 rfl (lv_at hl 1 rfl) ?_
        refine lv_aload_n hx hb dX0_holderOf_13 rfl (lv_at hl 0 rfl) ?_
        refine lv_iload_n hx hb dX0_holderOf_14 rfl (lv_at hl 2 rfl) ?_
        refine c_Vi (As := [.int (nI (i))]) (rest := [.int (nI (k - fb_sm O i))]) (ci := 0) (q0 := 0) S (c_X0_oftenAt_in l dC dI cI cJ cZ q0 q1 q2 q3 w o d n V O E hD i (by omega)) (cwV 1 hts gX0_holderOf_X0_oftenAt rfl rfl rfl (by decide +kernel) ⟨Nat.le_of_ble_eq_true rfl, Nat.le_of_ble_eq_true rfl⟩) hK hP rfl rfl rfl hl.1 rfl (Nat.le_of_ble_eq_true rfl) dX0_holderOf_15 ⟨Nat.le_of_ble_eq_true rfl, Nat.le_of_ble_eq_true rfl⟩ ?_
        refine n_ge (tgt := 23) hx hb dX0_holderOf_18 (by decide) (by omega) (Nat.lt_of_le_of_lt (hk _ c_9).2.2.2.2.1 (by decide)) (fun c_18 => ?_) (fun c_18 => ?_)
        · refine lv_iload_n hx hb dX0_holderOf_23 rfl (lv_at hl 1 rfl) ?_
          refine lv_aload_n hx hb dX0_holderOf_24 rfl (lv_at hl 0 rfl) ?_
          refine lv_iload_n hx hb dX0_holderOf_25 rfl (lv_at hl 2 rfl) ?_
          refine c_Vi (As := [.int (nI (i))]) (rest := [.int (nI (k - fb_sm O i))]) (ci := 0) (q0 := 0) S (c_X0_oftenAt_in l dC dI cI cJ cZ q0 q1 q2 q3 w o d n V O E hD i (by omega)) (cwV 1 hts gX0_holderOf_X0_oftenAt rfl rfl rfl (by decide +kernel) ⟨Nat.le_of_ble_eq_true rfl, Nat.le_of_ble_eq_true rfl⟩) hK hP rfl rfl rfl hl.1 rfl (Nat.le_of_ble_eq_true rfl) dX0_holderOf_26 ⟨Nat.le_of_ble_eq_true rfl, Nat.le_of_ble_eq_true rfl⟩ ?_
          refine lv_isub hx hb dX0_holderOf_29 ?_
          refine tpi (pk_sub (by omega)) ?_
          refine lv_istore_n (lv' := [(2, .int (nI ((k - fb_sm O i) - (O i)))), (0, .ref (q0)), (3, .int (nI (i)))]) hx hb dX0_holderOf_30 rfl hl (by decide) rfl (fun ls hl => ?_)
          refine lv_iinc (v := nI (i + 1)) (lv' := [(3, .int (nI (i + 1))), (2, .int (nI ((k - fb_sm O i) - (O i)))), (0, .ref (q0))]) hx hb dX0_holderOf_31 hl (k := 2) rfl (inc1 _) (by decide) rfl (fun ls hl => ?_)
          refine lv_goto (tgt := 4) hx hb dX0_holderOf_34 (by decide) ?_
          exact ih_4 (i + 1) (by omega) (by rw [fb_sm_succ]; omega) (lt_s hz (by rw [fb_sm_succ]; omega)) (by omega) ls (lv_cg (l := [(0, .ref (q0)), (2, .int (nI ((k - fb_sm O i) - (O i)))), (3, .int (nI (i + 1)))]) (lv_sub hl [2, 1, 0] rfl) (by rw [fb_sm_succ, Nat.sub_sub]))
        · refine lv_iload_n hx hb dX0_holderOf_21 rfl (lv_at hl 2 rfl) ?_
          exact r_i hx hb hr hlocks (by rw [show bfs (fun i => decide (k < fb_sm O (i + 1))) n = i from bfs_eq hi (fun j h => by simpa using hz j h) (fun _ => by rw [fb_sm_succ]; simp; omega)]; exact (if_pos c_9).symm) dX0_holderOf_22
  exact lp_4 _ (0) (by omega) (Nat.zero_le _) lt_0 (Nat.lt_succ_self _) ls (lv_sub hl [2, 1, 0] rfl)
abbrev rm_X0_moreFrequent : Room := { frames := 4, cells := 0, slots := 0, locals := 89 }
set_option maxHeartbeats 4000000 in
set_option maxRecDepth 100000 in
theorem c_X0_moreFrequent (l : Launch) (dC : Nat → ClassId) (dI : Nat → Nat → Nat) (cI cJ cZ : ClassId) (q0 q1 q2 q3 : Nat) (w : Nat → Int64) (o d : Nat → Int32) (n : Nat) (V O E : Nat → Nat) (hD : bDD w o d n V O E) (u : Nat) (j : Nat) (hj : j < n) : Met l yX0_moreFrequent wsX0_moreFrequent rm_X0_moreFrequent (rPc (dC, dI) (tysA cI cJ cZ) (wd q0 q1 q2 q3 cI cJ w o d n) [.ref (q0), .long (lN (be8 u)), .int (nI (j))]) (Ri (nI (bmf V O n u j))) 0 0 (fun _ => False) := by
  refine met_r (cc := cX0_moreFrequent) (maxL := 7) (ret := (some .int)) (own := RX0) (by decide) rfl rfl (Nat.le_of_ble_eq_true rfl) ?_
  intro p e s m below meth c S hr hlocks hP hK ls hl
  obtain ⟨hx, hb, hml, hown, hts⟩ := id S
  have hl : lv_has ls 7 [(0, .ref (q0)), (1, .long (lN (be8 u))), (3, .int (nI (j)))] := hl
  have hi0 : ∀ w ∈ wsX00, w ∈ wsX0_moreFrequent := fun _ h => List.mem_cons_of_mem _ (List.mem_append_right _ h)
  obtain ⟨hn, hk⟩ := id hD
  refine lv_iconst (v := nI (0)) hx hb dX0_moreFrequent_0 (by decide) ?_
  refine lv_istore (lv' := [(4, .int (nI (0))), (0, .ref (q0)), (1, .long (lN (be8 u))), (3, .int (nI (j)))]) hx hb dX0_moreFrequent_1 hl (by decide) rfl (fun ls hl => ?_)
  refine lv_iconst (v := nI (0)) hx hb dX0_moreFrequent_3 (by decide) ?_
  refine lv_istore (lv' := [(5, .int (nI (0))), (4, .int (nI (0))), (0, .ref (q0)), (1, .long (lN (be8 u))), (3, .int (nI (j)))]) hx hb dX0_moreFrequent_4 hl (by decide) rfl (fun ls hl => ?_)
  have lp_6 : ∀ (j_6 : Nat) (i : Nat), (i ≤ n) → (n - i) < j_6 → ∀ ls : Array Slot, lv_has ls 7 [(0, .ref (q0)), (1, .long (lN (be8 u))), (3, .int (nI (j))), (4, .int (nI (fb_ct (fun i => (decide (O j < O i) || (O i == O j && decide (i < j))) && (bsh u (V i) == bln u)) i))), (5, .int (nI (i)))] → W p l e rm_X0_moreFrequent s m ([.ref (q0), .long (lN (be8 u)), .int (nI (j))] : List Value).toArray below meth c s.heap [] 0 0 (MQ below (Ri (nI (bmf V O n u j))) ([.ref (q0), .long (lN (be8 u)), .int (nI (j))] : List Value).toArray s 0 0 (fun _ => False)) (F0 m 6 ls []) := by
    intro j_6
    induction j_6 with
    | zero => intro i _ h0; exact absurd h0 (Nat.not_lt_zero _)
    | succ j_6 ih_6 =>
      intro i hi hf_6 ls hl
      refine lv_iload hx hb dX0_moreFrequent_6 (lv_at hl 4 rfl) ?_
      refine lv_aload_n hx hb dX0_moreFrequent_8 rfl (lv_at hl 0 rfl) ?_
      refine va_get (D := (dC, dI)) (ci := 0) (v := .int (nI (n))) (C := RX0) (T := TX0) (N := 4) hx hb hts hi0 hown hK hP 0 rfl rfl 3 (by decide) (hts (.fieldLink RX0 22 "BurstWords$Dictionary" "size" "I") (by decide +kernel)) (fun _ h9 => h9) rfl dX0_moreFrequent_9 ?_
      refine n_ge (tgt := 83) hx hb dX0_moreFrequent_12 (by decide) (by omega) (by omega) (fun c_12 => ?_) (fun c_12 => ?_)
      · refine lv_iload hx hb dX0_moreFrequent_83 (lv_at hl 3 rfl) ?_
        exact r_i hx hb hr hlocks (by rw [show i = n by omega]; rfl) dX0_moreFrequent_85
      · refine lv_aload_n hx hb dX0_moreFrequent_15 rfl (lv_at hl 0 rfl) ?_
        refine lv_iload hx hb dX0_moreFrequent_16 (lv_at hl 4 rfl) ?_
        refine c_Vi (As := [.int (nI (i))]) (rest := []) (ci := 0) (q0 := 0) S (c_X0_oftenAt_in l dC dI cI cJ cZ q0 q1 q2 q3 w o d n V O E hD i (by omega)) (cwV 1 hts gX0_moreFrequent_X0_oftenAt rfl rfl rfl (by decide +kernel) ⟨Nat.le_of_ble_eq_true rfl, Nat.le_of_ble_eq_true rfl⟩) hK hP rfl rfl rfl hl.1 rfl (Nat.le_of_ble_eq_true rfl) dX0_moreFrequent_18 ⟨Nat.le_of_ble_eq_true rfl, Nat.le_of_ble_eq_true rfl⟩ ?_
        refine lv_aload_n hx hb dX0_moreFrequent_21 rfl (lv_at hl 0 rfl) ?_
        refine lv_iload_n hx hb dX0_moreFrequent_22 rfl (lv_at hl 2 rfl) ?_
        refine c_Vi (As := [.int (nI (j))]) (rest := [.int (nI (O i))]) (ci := 0) (q0 := 0) S (c_X0_oftenAt_in l dC dI cI cJ cZ q0 q1 q2 q3 w o d n V O E hD j (by omega)) (cwV 1 hts gX0_moreFrequent_X0_oftenAt rfl rfl rfl (by decide +kernel) ⟨Nat.le_of_ble_eq_true rfl, Nat.le_of_ble_eq_true rfl⟩) hK hP rfl rfl rfl hl.1 rfl (Nat.le_of_ble_eq_true rfl) dX0_moreFrequent_23 ⟨Nat.le_of_ble_eq_true rfl, Nat.le_of_ble_eq_true rfl⟩ ?_
        refine n_gt (tgt := 49) hx hb dX0_moreFrequent_26 (by decide) (Nat.lt_of_le_of_lt (hk _ c_12).2.2.2.2.1 (by decide)) (Nat.lt_of_le_of_lt (hk _ hj).2.2.2.2.1 (by decide)) (fun c_26 => ?_) (fun c_26 => ?_)
        · refine lv_iconst (v := nI (1)) hx hb dX0_moreFrequent_49 (by decide) ?_
          refine lv_goto (tgt := 54) hx hb dX0_moreFrequent_50 (by decide) ?_
          refine lv_istore (lv' := [(6, .int (nI (1))), (0, .ref (q0)), (1, .long (lN (be8 u))), (3, .int (nI (j))), (4, .int (nI (fb_ct (fun i => (decide (O j < O i) || (O i == O j && decide (i < j))) && (bsh u (V i) == bln u)) i))), (5, .int (nI (i)))]) hx hb dX0_moreFrequent_54 hl (by decide) rfl (fun ls hl => ?_)
          refine lv_iload hx hb dX0_moreFrequent_56 (lv_at hl 0 rfl) ?_
          refine z_eq (tgt := 77) hx hb dX0_moreFrequent_58 (by decide) (by omega) (fun c_58 => ?_) (fun c_58 => ?_)
          · exact absurd c_58 (by decide)
          · refine lv_lload_n hx hb dX0_moreFrequent_61 rfl (lv_at hl 2 rfl) ?_
            refine lv_aload_n hx hb dX0_moreFrequent_62 rfl (lv_at hl 1 rfl) ?_
            refine lv_iload hx hb dX0_moreFrequent_63 (lv_at hl 5 rfl) ?_
            refine c_Vl (As := [.int (nI (i))]) (rest := [.long (lN (be8 u))]) (ci := 0) (q0 := 0) S (c_X0_wordAt_in l dC dI cI cJ cZ q0 q1 q2 q3 w o d n V O E hD i (by omega)) (cwV 1 hts gX0_moreFrequent_X0_wordAt rfl rfl rfl (by decide +kernel) ⟨Nat.le_of_ble_eq_true rfl, Nat.le_of_ble_eq_true rfl⟩) hK hP rfl rfl rfl hl.1 rfl (Nat.le_of_ble_eq_true rfl) dX0_moreFrequent_65 ⟨Nat.le_of_ble_eq_true rfl, Nat.le_of_ble_eq_true rfl⟩ ?_
            refine c_Si (As := [.long (lN (be8 u)), .long (lN (be8 (V i)))]) (rest := []) S (c_X3_begins l u (V i)) (va_cwS 2 hts gX0_moreFrequent_X3_begins rfl rfl rfl (by decide +kernel) ⟨Nat.le_of_ble_eq_true rfl, Nat.le_of_ble_eq_true rfl⟩) rfl hl.1 rfl (Nat.le_of_ble_eq_true rfl) dX0_moreFrequent_68 ⟨Nat.le_of_ble_eq_true rfl, Nat.le_of_ble_eq_true rfl⟩ ?_
            refine b_eq (tgt := 77) hx hb dX0_moreFrequent_71 (by decide) (fun c_71 => ?_) (fun c_71 => ?_)
            · refine lv_iinc (v := nI (i + 1)) (lv' := [(5, .int (nI (i + 1))), (6, .int (nI (1))), (0, .ref (q0)), (1, .long (lN (be8 u))), (3, .int (nI (j))), (4, .int (nI (fb_ct (fun i => (decide (O j < O i) || (O i == O j && decide (i < j))) && (bsh u (V i) == bln u)) i)))]) hx hb dX0_moreFrequent_77 hl (k := 5) rfl (inc1 _) (by decide) rfl (fun ls hl => ?_)
              refine lv_goto (tgt := 6) hx hb dX0_moreFrequent_80 (by decide) ?_
              exact ih_6 (i + 1) (by omega) (by omega) ls (lv_cg (l := [(0, .ref (q0)), (1, .long (lN (be8 u))), (3, .int (nI (j))), (4, .int (nI (fb_ct (fun i => (decide (O j < O i) || (O i == O j && decide (i < j))) && (bsh u (V i) == bln u)) i))), (5, .int (nI (i + 1)))]) (lv_sub hl [2, 3, 4, 5, 0] rfl) (by rw [ct_n (p := (fun i => (decide (O j < O i) || (O i == O j && decide (i < j))) && (bsh u (V i) == bln u))) (n := i) (by rw [c_71]; simp)]))
            · refine lv_iinc (v := nI ((fb_ct (fun i => (decide (O j < O i) || (O i == O j && decide (i < j))) && (bsh u (V i) == bln u)) i) + 1)) (lv' := [(4, .int (nI ((fb_ct (fun i => (decide (O j < O i) || (O i == O j && decide (i < j))) && (bsh u (V i) == bln u)) i) + 1))), (6, .int (nI (1))), (0, .ref (q0)), (1, .long (lN (be8 u))), (3, .int (nI (j))), (5, .int (nI (i)))]) hx hb dX0_moreFrequent_74 hl (k := 4) rfl (inc1 _) (by decide) rfl (fun ls hl => ?_)
              refine lv_iinc (v := nI (i + 1)) (lv' := [(5, .int (nI (i + 1))), (4, .int (nI ((fb_ct (fun i => (decide (O j < O i) || (O i == O j && decide (i < j))) && (bsh u (V i) == bln u)) i) + 1))), (6, .int (nI (1))), (0, .ref (q0)), (1, .long (lN (be8 u))), (3, .int (nI (j)))]) hx hb dX0_moreFrequent_77 hl (k := 5) rfl (inc1 _) (by decide) rfl (fun ls hl => ?_)
              refine lv_goto (tgt := 6) hx hb dX0_moreFrequent_80 (by decide) ?_
              exact ih_6 (i + 1) (by omega) (by omega) ls (lv_cg (l := [(0, .ref (q0)), (1, .long (lN (be8 u))), (3, .int (nI (j))), (4, .int (nI ((fb_ct (fun i => (decide (O j < O i) || (O i == O j && decide (i < j))) && (bsh u (V i) == bln u)) i) + 1))), (5, .int (nI (i + 1)))]) (lv_sub hl [3, 4, 5, 1, 0] rfl) (by rw [ct_y (p := (fun i => (decide (O j < O i) || (O i == O j && decide (i < j))) && (bsh u (V i) == bln u))) (n := i) (by rw [c_71]; simp; omega)]))
        · refine lv_aload_n hx hb dX0_moreFrequent_29 rfl (lv_at hl 0 rfl) ?_
          refine lv_iload hx hb dX0_moreFrequent_30 (lv_at hl 4 rfl) ?_
          refine c_Vi (As := [.int (nI (i))]) (rest := []) (ci := 0) (q0 := 0) S (c_X0_oftenAt_in l dC dI cI cJ cZ q0 q1 q2 q3 w o d n V O E hD i (by omega)) (cwV 1 hts gX0_moreFrequent_X0_oftenAt rfl rfl rfl (by decide +kernel) ⟨Nat.le_of_ble_eq_true rfl, Nat.le_of_ble_eq_true rfl⟩) hK hP rfl rfl rfl hl.1 rfl (Nat.le_of_ble_eq_true rfl) dX0_moreFrequent_32 ⟨Nat.le_of_ble_eq_true rfl, Nat.le_of_ble_eq_true rfl⟩ ?_
          refine lv_aload_n hx hb dX0_moreFrequent_35 rfl (lv_at hl 0 rfl) ?_
          refine lv_iload_n hx hb dX0_moreFrequent_36 rfl (lv_at hl 2 rfl) ?_
          refine c_Vi (As := [.int (nI (j))]) (rest := [.int (nI (O i))]) (ci := 0) (q0 := 0) S (c_X0_oftenAt_in l dC dI cI cJ cZ q0 q1 q2 q3 w o d n V O E hD j (by omega)) (cwV 1 hts gX0_moreFrequent_X0_oftenAt rfl rfl rfl (by decide +kernel) ⟨Nat.le_of_ble_eq_true rfl, Nat.le_of_ble_eq_true rfl⟩) hK hP rfl rfl rfl hl.1 rfl (Nat.le_of_ble_eq_true rfl) dX0_moreFrequent_37 ⟨Nat.le_of_ble_eq_true rfl, Nat.le_of_ble_eq_true rfl⟩ ?_
          refine n_ne (tgt := 53) hx hb dX0_moreFrequent_40 (by decide) (Nat.lt_of_le_of_lt (hk _ c_12).2.2.2.2.1 (by decide)) (Nat.lt_of_le_of_lt (hk _ hj).2.2.2.2.1 (by decide)) (fun c_40 => ?_) (fun c_40 => ?_)
          · refine lv_iconst (v := nI (0)) hx hb dX0_moreFrequent_53 (by decide) ?_
            refine lv_istore (lv' := [(6, .int (nI (0))), (0, .ref (q0)), (1, .long (lN (be8 u))), (3, .int (nI (j))), (4, .int (nI (fb_ct (fun i => (decide (O j < O i) || (O i == O j && decide (i < j))) && (bsh u (V i) == bln u)) i))), (5, .int (nI (i)))]) hx hb dX0_moreFrequent_54 hl (by decide) rfl (fun ls hl => ?_)
            refine lv_iload hx hb dX0_moreFrequent_56 (lv_at hl 0 rfl) ?_
            refine z_eq (tgt := 77) hx hb dX0_moreFrequent_58 (by decide) (by omega) (fun c_58 => ?_) (fun c_58 => ?_)
            · refine lv_iinc (v := nI (i + 1)) (lv' := [(5, .int (nI (i + 1))), (6, .int (nI (0))), (0, .ref (q0)), (1, .long (lN (be8 u))), (3, .int (nI (j))), (4, .int (nI (fb_ct (fun i => (decide (O j < O i) || (O i == O j && decide (i < j))) && (bsh u (V i) == bln u)) i)))]) hx hb dX0_moreFrequent_77 hl (k := 5) rfl (inc1 _) (by decide) rfl (fun ls hl => ?_)
              refine lv_goto (tgt := 6) hx hb dX0_moreFrequent_80 (by decide) ?_
              exact ih_6 (i + 1) (by omega) (by omega) ls (lv_cg (l := [(0, .ref (q0)), (1, .long (lN (be8 u))), (3, .int (nI (j))), (4, .int (nI (fb_ct (fun i => (decide (O j < O i) || (O i == O j && decide (i < j))) && (bsh u (V i) == bln u)) i))), (5, .int (nI (i + 1)))]) (lv_sub hl [2, 3, 4, 5, 0] rfl) (by rw [ct_n (p := (fun i => (decide (O j < O i) || (O i == O j && decide (i < j))) && (bsh u (V i) == bln u))) (n := i) (by simp; omega)]))
            · exact absurd c_58 (by decide)
          · refine lv_iload hx hb dX0_moreFrequent_43 (lv_at hl 4 rfl) ?_
            refine lv_iload_n hx hb dX0_moreFrequent_45 rfl (lv_at hl 2 rfl) ?_
            refine n_ge (tgt := 53) hx hb dX0_moreFrequent_46 (by decide) (by omega) (by omega) (fun c_46 => ?_) (fun c_46 => ?_)
            · refine lv_iconst (v := nI (0)) hx hb dX0_moreFrequent_53 (by decide) ?_
              refine lv_istore (lv' := [(6, .int (nI (0))), (0, .ref (q0)), (1, .long (lN (be8 u))), (3, .int (nI (j))), (4, .int (nI (fb_ct (fun i => (decide (O j < O i) || (O i == O j && decide (i < j))) && (bsh u (V i) == bln u)) i))), (5, .int (nI (i)))]) hx hb dX0_moreFrequent_54 hl (by decide) rfl (fun ls hl => ?_)
              refine lv_iload hx hb dX0_moreFrequent_56 (lv_at hl 0 rfl) ?_
              refine z_eq (tgt := 77) hx hb dX0_moreFrequent_58 (by decide) (by omega) (fun c_58 => ?_) (fun c_58 => ?_)
              · refine lv_iinc (v := nI (i + 1)) (lv' := [(5, .int (nI (i + 1))), (6, .int (nI (0))), (0, .ref (q0)), (1, .long (lN (be8 u))), (3, .int (nI (j))), (4, .int (nI (fb_ct (fun i => (decide (O j < O i) || (O i == O j && decide (i < j))) && (bsh u (V i) == bln u)) i)))]) hx hb dX0_moreFrequent_77 hl (k := 5) rfl (inc1 _) (by decide) rfl (fun ls hl => ?_)
                refine lv_goto (tgt := 6) hx hb dX0_moreFrequent_80 (by decide) ?_
                exact ih_6 (i + 1) (by omega) (by omega) ls (lv_cg (l := [(0, .ref (q0)), (1, .long (lN (be8 u))), (3, .int (nI (j))), (4, .int (nI (fb_ct (fun i => (decide (O j < O i) || (O i == O j && decide (i < j))) && (bsh u (V i) == bln u)) i))), (5, .int (nI (i + 1)))]) (lv_sub hl [2, 3, 4, 5, 0] rfl) (by rw [ct_n (p := (fun i => (decide (O j < O i) || (O i == O j && decide (i < j))) && (bsh u (V i) == bln u))) (n := i) (by simp; omega)]))
              · exact absurd c_58 (by decide)
            · refine lv_iconst (v := nI (1)) hx hb dX0_moreFrequent_49 (by decide) ?_
              refine lv_goto (tgt := 54) hx hb dX0_moreFrequent_50 (by decide) ?_
              refine lv_istore (lv' := [(6, .int (nI (1))), (0, .ref (q0)), (1, .long (lN (be8 u))), (3, .int (nI (j))), (4, .int (nI (fb_ct (fun i => (decide (O j < O i) || (O i == O j && decide (i < j))) && (bsh u (V i) == bln u)) i))), (5, .int (nI (i)))]) hx hb dX0_moreFrequent_54 hl (by decide) rfl (fun ls hl => ?_)
              refine lv_iload hx hb dX0_moreFrequent_56 (lv_at hl 0 rfl) ?_
              refine z_eq (tgt := 77) hx hb dX0_moreFrequent_58 (by decide) (by omega) (fun c_58 => ?_) (fun c_58 => ?_)
              · exact absurd c_58 (by decide)
              · refine lv_lload_n hx hb dX0_moreFrequent_61 rfl (lv_at hl 2 rfl) ?_
                refine lv_aload_n hx hb dX0_moreFrequent_62 rfl (lv_at hl 1 rfl) ?_
                refine lv_iload hx hb dX0_moreFrequent_63 (lv_at hl 5 rfl) ?_
                refine c_Vl (As := [.int (nI (i))]) (rest := [.long (lN (be8 u))]) (ci := 0) (q0 := 0) S (c_X0_wordAt_in l dC dI cI cJ cZ q0 q1 q2 q3 w o d n V O E hD i (by omega)) (cwV 1 hts gX0_moreFrequent_X0_wordAt rfl rfl rfl (by decide +kernel) ⟨Nat.le_of_ble_eq_true rfl, Nat.le_of_ble_eq_true rfl⟩) hK hP rfl rfl rfl hl.1 rfl (Nat.le_of_ble_eq_true rfl) dX0_moreFrequent_65 ⟨Nat.le_of_ble_eq_true rfl, Nat.le_of_ble_eq_true rfl⟩ ?_
                refine c_Si (As := [.long (lN (be8 u)), .long (lN (be8 (V i)))]) (rest := []) S (c_X3_begins l u (V i)) (va_cwS 2 hts gX0_moreFrequent_X3_begins rfl rfl rfl (by decide +kernel) ⟨Nat.le_of_ble_eq_true rfl, Nat.le_of_ble_eq_true rfl⟩) rfl hl.1 rfl (Nat.le_of_ble_eq_true rfl) dX0_moreFrequent_68 ⟨Nat.le_of_ble_eq_true rfl, Nat.le_of_ble_eq_true rfl⟩ ?_
                refine b_eq (tgt := 77) hx hb dX0_moreFrequent_71 (by decide) (fun c_71 => ?_) (fun c_71 => ?_)
                · refine lv_iinc (v := nI (i + 1)) (lv' := [(5, .int (nI (i + 1))), (6, .int (nI (1))), (0, .ref (q0)), (1, .long (lN (be8 u))), (3, .int (nI (j))), (4, .int (nI (fb_ct (fun i => (decide (O j < O i) || (O i == O j && decide (i < j))) && (bsh u (V i) == bln u)) i)))]) hx hb dX0_moreFrequent_77 hl (k := 5) rfl (inc1 _) (by decide) rfl (fun ls hl => ?_)
                  refine lv_goto (tgt := 6) hx hb dX0_moreFrequent_80 (by decide) ?_
                  exact ih_6 (i + 1) (by omega) (by omega) ls (lv_cg (l := [(0, .ref (q0)), (1, .long (lN (be8 u))), (3, .int (nI (j))), (4, .int (nI (fb_ct (fun i => (decide (O j < O i) || (O i == O j && decide (i < j))) && (bsh u (V i) == bln u)) i))), (5, .int (nI (i + 1)))]) (lv_sub hl [2, 3, 4, 5, 0] rfl) (by rw [ct_n (p := (fun i => (decide (O j < O i) || (O i == O j && decide (i < j))) && (bsh u (V i) == bln u))) (n := i) (by rw [c_71]; simp)]))
                · refine lv_iinc (v := nI ((fb_ct (fun i => (decide (O j < O i) || (O i == O j && decide (i < j))) && (bsh u (V i) == bln u)) i) + 1)) (lv' := [(4, .int (nI ((fb_ct (fun i => (decide (O j < O i) || (O i == O j && decide (i < j))) && (bsh u (V i) == bln u)) i) + 1))), (6, .int (nI (1))), (0, .ref (q0)), (1, .long (lN (be8 u))), (3, .int (nI (j))), (5, .int (nI (i)))]) hx hb dX0_moreFrequent_74 hl (k := 4) rfl (inc1 _) (by decide) rfl (fun ls hl => ?_)
                  refine lv_iinc (v := nI (i + 1)) (lv' := [(5, .int (nI (i + 1))), (4, .int (nI ((fb_ct (fun i => (decide (O j < O i) || (O i == O j && decide (i < j))) && (bsh u (V i) == bln u)) i) + 1))), (6, .int (nI (1))), (0, .ref (q0)), (1, .long (lN (be8 u))), (3, .int (nI (j)))]) hx hb dX0_moreFrequent_77 hl (k := 5) rfl (inc1 _) (by decide) rfl (fun ls hl => ?_)
                  refine lv_goto (tgt := 6) hx hb dX0_moreFrequent_80 (by decide) ?_
                  exact ih_6 (i + 1) (by omega) (by omega) ls (lv_cg (l := [(0, .ref (q0)), (1, .long (lN (be8 u))), (3, .int (nI (j))), (4, .int (nI ((fb_ct (fun i => (decide (O j < O i) || (O i == O j && decide (i < j))) && (bsh u (V i) == bln u)) i) + 1))), (5, .int (nI (i + 1)))]) (lv_sub hl [3, 4, 5, 1, 0] rfl) (by rw [ct_y (p := (fun i => (decide (O j < O i) || (O i == O j && decide (i < j))) && (bsh u (V i) == bln u))) (n := i) (by rw [c_71]; simp; omega)]))
  exact lp_6 _ (0) (by omega) (Nat.lt_succ_self _) ls (lv_sub hl [2, 3, 4, 1, 0] rfl)
abbrev rm_X0_frequent : Room := { frames := 5, cells := 0, slots := 0, locals := 115 }
set_option maxHeartbeats 4000000 in
set_option maxRecDepth 100000 in
theorem c_X0_frequent (l : Launch) (dC : Nat → ClassId) (dI : Nat → Nat → Nat) (cI cJ cZ : ClassId) (q0 q1 q2 q3 : Nat) (w : Nat → Int64) (o d : Nat → Int32) (n : Nat) (V O E : Nat → Nat) (hD : bDD w o d n V O E) (u : Nat) (k : Nat) (hk31 : k < 2 ^ 31) : Met l yX0_frequent wsX0_frequent rm_X0_frequent (rPc (dC, dI) (tysA cI cJ cZ) (wd q0 q1 q2 q3 cI cJ w o d n) [.ref (q0), .long (lN (be8 u)), .int (nI (k))]) (Ri (bopt n (bfs (fun j => (bsh u (V j) == bln u) && (bmf V O n u j == k)) n))) 0 0 (fun _ => False) := by
  refine met_r (cc := cX0_frequent) (maxL := 5) (ret := (some .int)) (own := RX0) (by decide) rfl rfl (Nat.le_of_ble_eq_true rfl) ?_
  intro p e s m below meth c S hr hlocks hP hK ls hl
  obtain ⟨hx, hb, hml, hown, hts⟩ := id S
  have hl : lv_has ls 5 [(0, .ref (q0)), (1, .long (lN (be8 u))), (3, .int (nI (k)))] := hl
  have hi0 : ∀ w ∈ wsX00, w ∈ wsX0_frequent := fun _ h => List.mem_cons_of_mem _ (List.mem_append_right _ h)
  obtain ⟨hn, hk⟩ := id hD
  refine lv_iconst (v := nI (0)) hx hb dX0_frequent_0 (by decide) ?_
  refine lv_istore (lv' := [(4, .int (nI (0))), (0, .ref (q0)), (1, .long (lN (be8 u))), (3, .int (nI (k)))]) hx hb dX0_frequent_1 hl (by decide) rfl (fun ls hl => ?_)
  have lp_3 : ∀ (j_3 : Nat) (i : Nat), (i ≤ n) → (∀ j, j < i → (fun j => (bsh u (V j) == bln u) && (bmf V O n u j == k)) j = false) → (n - i) < j_3 → ∀ ls : Array Slot, lv_has ls 5 [(0, .ref (q0)), (1, .long (lN (be8 u))), (3, .int (nI (k))), (4, .int (nI (i)))] → W p l e rm_X0_frequent s m ([.ref (q0), .long (lN (be8 u)), .int (nI (k))] : List Value).toArray below meth c s.heap [] 0 0 (MQ below (Ri (bopt n (bfs (fun j => (bsh u (V j) == bln u) && (bmf V O n u j == k)) n))) ([.ref (q0), .long (lN (be8 u)), .int (nI (k))] : List Value).toArray s 0 0 (fun _ => False)) (F0 m 3 ls []) := by
    intro j_3
    induction j_3 with
    | zero => intro i _ _ h0; exact absurd h0 (Nat.not_lt_zero _)
    | succ j_3 ih_3 =>
      intro i hi hz hf_3 ls hl
      refine lv_iload hx hb dX0_frequent_3 (lv_at hl 3 rfl) ?_
      refine lv_aload_n hx hb dX0_frequent_5 rfl (lv_at hl 0 rfl) ?_
      refine va_get (D := (dC, dI)) (ci := 0) (v := .int (nI (n))) (C := RX0) (T := TX0) (N := 4) hx hb hts hi0 hown hK hP 0 rfl rfl 3 (by decide) (hts (.fieldLink RX0 22 "BurstWords$Dictionary" "size" "I") (by decide +kernel)) (fun _ h9 => h9) rfl dX0_frequent_6 ?_
      refine n_ge (tgt := 45) hx hb dX0_frequent_9 (by decide) (by omega) (by omega) (fun c_9 => ?_) (fun c_9 => ?_)
      · refine lv_iconst (v := (-1 : Int32)) hx hb dX0_frequent_45 (by decide) ?_
        exact r_i hx hb hr hlocks (by rw [show bfs (fun j => (bsh u (V j) == bln u) && (bmf V O n u j == k)) n = n from bfs_eq (Nat.le_refl n) (fun j h => hz j (by omega)) (fun h => absurd h (Nat.lt_irrefl n))]; exact (if_neg (Nat.lt_irrefl n)).symm) dX0_frequent_46
      · refine lv_lload_n hx hb dX0_frequent_12 rfl (lv_at hl 1 rfl) ?_
        refine lv_aload_n hx hb dX0_frequent_13 rfl (lv_at hl 0 rfl) ?_
        refine lv_iload hx hb dX0_frequent_14 (lv_at hl 3 rfl) ?_
        refine c_Vl (As := [.int (nI (i))]) (rest := [.long (lN (be8 u))]) (ci := 0) (q0 := 0) S (c_X0_wordAt_in l dC dI cI cJ cZ q0 q1 q2 q3 w o d n V O E hD i (by omega)) (cwV 1 hts gX0_frequent_X0_wordAt rfl rfl rfl (by decide +kernel) ⟨Nat.le_of_ble_eq_true rfl, Nat.le_of_ble_eq_true rfl⟩) hK hP rfl rfl rfl hl.1 rfl (Nat.le_of_ble_eq_true rfl) dX0_frequent_16 ⟨Nat.le_of_ble_eq_true rfl, Nat.le_of_ble_eq_true rfl⟩ ?_
        refine c_Si (As := [.long (lN (be8 u)), .long (lN (be8 (V i)))]) (rest := []) S (c_X3_begins l u (V i)) (va_cwS 2 hts gX0_frequent_X3_begins rfl rfl rfl (by decide +kernel) ⟨Nat.le_of_ble_eq_true rfl, Nat.le_of_ble_eq_true rfl⟩) rfl hl.1 rfl (Nat.le_of_ble_eq_true rfl) dX0_frequent_19 ⟨Nat.le_of_ble_eq_true rfl, Nat.le_of_ble_eq_true rfl⟩ ?_
        refine b_eq (tgt := 39) hx hb dX0_frequent_22 (by decide) (fun c_22 => ?_) (fun c_22 => ?_)
        · refine lv_iinc (v := nI (i + 1)) (lv' := [(4, .int (nI (i + 1))), (0, .ref (q0)), (1, .long (lN (be8 u))), (3, .int (nI (k)))]) hx hb dX0_frequent_39 hl (k := 3) rfl (inc1 _) (by decide) rfl (fun ls hl => ?_)
          refine lv_goto (tgt := 3) hx hb dX0_frequent_42 (by decide) ?_
          exact ih_3 (i + 1) (by omega) (lt_s hz (by show ((_ == _) && (_ == _)) = false; rw [c_22]; rfl)) (by omega) ls (lv_sub hl [1, 2, 3, 0] rfl)
        · refine lv_aload_n hx hb dX0_frequent_25 rfl (lv_at hl 0 rfl) ?_
          refine lv_lload_n hx hb dX0_frequent_26 rfl (lv_at hl 1 rfl) ?_
          refine lv_iload hx hb dX0_frequent_27 (lv_at hl 3 rfl) ?_
          refine c_Vi (As := [.long (lN (be8 u)), .int (nI (i))]) (rest := []) (ci := 0) (q0 := 0) S (c_X0_moreFrequent l dC dI cI cJ cZ q0 q1 q2 q3 w o d n V O E hD u i (by omega)) (cwV 2 hts gX0_frequent_X0_moreFrequent rfl rfl rfl (by decide +kernel) ⟨Nat.le_of_ble_eq_true rfl, Nat.le_of_ble_eq_true rfl⟩) hK hP rfl rfl rfl hl.1 rfl (Nat.le_of_ble_eq_true rfl) dX0_frequent_29 ⟨Nat.le_of_ble_eq_true rfl, Nat.le_of_ble_eq_true rfl⟩ ?_
          refine lv_iload_n hx hb dX0_frequent_32 rfl (lv_at hl 2 rfl) ?_
          refine n_ne (tgt := 39) hx hb dX0_frequent_33 (by decide) (Nat.lt_of_le_of_lt (fb_ct_le _ _) (by omega)) (by omega) (fun c_33 => ?_) (fun c_33 => ?_)
          · refine lv_iinc (v := nI (i + 1)) (lv' := [(4, .int (nI (i + 1))), (0, .ref (q0)), (1, .long (lN (be8 u))), (3, .int (nI (k)))]) hx hb dX0_frequent_39 hl (k := 3) rfl (inc1 _) (by decide) rfl (fun ls hl => ?_)
            refine lv_goto (tgt := 3) hx hb dX0_frequent_42 (by decide) ?_
            exact ih_3 (i + 1) (by omega) (lt_s hz (by show ((_ == _) && (_ == _)) = false; rw [show (bmf V O n u i == k) = false by simpa using c_33]; simp)) (by omega) ls (lv_sub hl [1, 2, 3, 0] rfl)
          · refine lv_iload hx hb dX0_frequent_36 (lv_at hl 3 rfl) ?_
            exact r_i hx hb hr hlocks (by rw [show bfs (fun j => (bsh u (V j) == bln u) && (bmf V O n u j == k)) n = i from bfs_eq hi hz (fun _ => by show ((_ == _) && (_ == _)) = true; rw [c_22, c_33]; simp)]; exact (if_pos c_9).symm) dX0_frequent_38
  exact lp_3 _ (0) (by omega) lt_0 (Nat.lt_succ_self _) ls (lv_sub hl [1, 2, 3, 0] rfl)
abbrev rm_X0_sharedAhead : Room := { frames := 3, cells := 0, slots := 0, locals := 66 }
set_option maxHeartbeats 4000000 in
set_option maxRecDepth 100000 in
theorem c_X0_sharedAhead_1 (l : Launch) (dC : Nat → ClassId) (dI : Nat → Nat → Nat) (cI cJ cZ : ClassId) (q0 q1 q2 q3 : Nat) (w : Nat → Int64) (o d : Nat → Int32) (n : Nat) (V O E : Nat → Nat) (hD : bDD w o d n V O E) (k : Nat) (hk1 : 0 < k) (hkn : k < n) : Met l yX0_sharedAhead wsX0_sharedAhead rm_X0_sharedAhead (rPc (dC, dI) (tysA cI cJ cZ) (wd q0 q1 q2 q3 cI cJ w o d n) [.ref (q0), .int (nI (k))]) (Ri (nI (bsh (V (k - 1)) (V k)))) 0 0 (fun _ => False) := by
  refine met_r (cc := cX0_sharedAhead) (maxL := 2) (ret := (some .int)) (own := RX0) (by decide) rfl rfl (Nat.le_of_ble_eq_true rfl) ?_
  intro p e s m below meth c S hr hlocks hP hK ls hl
  obtain ⟨hx, hb, hml, hown, hts⟩ := id S
  have hl : lv_has ls 2 [(0, .ref (q0)), (1, .int (nI (k)))] := hl
  have hi0 : ∀ w ∈ wsX00, w ∈ wsX0_sharedAhead := fun _ h => List.mem_cons_of_mem _ (List.mem_append_right _ h)
  obtain ⟨hn, hk⟩ := id hD
  refine lv_iload_n hx hb dX0_sharedAhead_0 rfl (lv_at hl 1 rfl) ?_
  refine z_gt (tgt := 8) hx hb dX0_sharedAhead_1 (by decide) (by omega) (fun c_1 => ?_) (fun c_1 => ?_)
  · refine lv_aload_n hx hb dX0_sharedAhead_8 rfl (lv_at hl 0 rfl) ?_
    refine lv_iload_n hx hb dX0_sharedAhead_9 rfl (lv_at hl 1 rfl) ?_
    refine lv_iconst (v := nI (1)) hx hb dX0_sharedAhead_10 (by decide) ?_
    refine lv_isub hx hb dX0_sharedAhead_11 ?_
    refine tpi (pk_sub (by omega)) ?_
    refine c_Vl (As := [.int (nI (k - 1))]) (rest := []) (ci := 0) (q0 := 0) S (c_X0_wordAt_in l dC dI cI cJ cZ q0 q1 q2 q3 w o d n V O E hD (k - 1) (by omega)) (cwV 1 hts gX0_sharedAhead_X0_wordAt rfl rfl rfl (by decide +kernel) ⟨Nat.le_of_ble_eq_true rfl, Nat.le_of_ble_eq_true rfl⟩) hK hP rfl rfl rfl hl.1 rfl (Nat.le_of_ble_eq_true rfl) dX0_sharedAhead_12 ⟨Nat.le_of_ble_eq_true rfl, Nat.le_of_ble_eq_true rfl⟩ ?_
    refine lv_aload_n hx hb dX0_sharedAhead_15 rfl (lv_at hl 0 rfl) ?_
    refine lv_iload_n hx hb dX0_sharedAhead_16 rfl (lv_at hl 1 rfl) ?_
    refine c_Vl (As := [.int (nI (k))]) (rest := [.long (lN (be8 (V (k - 1))))]) (ci := 0) (q0 := 0) S (c_X0_wordAt_in l dC dI cI cJ cZ q0 q1 q2 q3 w o d n V O E hD k (by omega)) (cwV 1 hts gX0_sharedAhead_X0_wordAt rfl rfl rfl (by decide +kernel) ⟨Nat.le_of_ble_eq_true rfl, Nat.le_of_ble_eq_true rfl⟩) hK hP rfl rfl rfl hl.1 rfl (Nat.le_of_ble_eq_true rfl) dX0_sharedAhead_17 ⟨Nat.le_of_ble_eq_true rfl, Nat.le_of_ble_eq_true rfl⟩ ?_
    refine c_Si (As := [.long (lN (be8 (V (k - 1)))), .long (lN (be8 (V k)))]) (rest := []) S (c_X3_sharedBy l (V (k - 1)) (V k)) (va_cwS 2 hts gX0_sharedAhead_X3_sharedBy rfl rfl rfl (by decide +kernel) ⟨Nat.le_of_ble_eq_true rfl, Nat.le_of_ble_eq_true rfl⟩) rfl hl.1 rfl (Nat.le_of_ble_eq_true rfl) dX0_sharedAhead_20 ⟨Nat.le_of_ble_eq_true rfl, Nat.le_of_ble_eq_true rfl⟩ ?_
    exact r_i hx hb hr hlocks rfl dX0_sharedAhead_23
  · exact absurd hk1 (by omega)
set_option maxHeartbeats 4000000 in
set_option maxRecDepth 100000 in
theorem c_X0_sharedAhead (l : Launch) (dC : Nat → ClassId) (dI : Nat → Nat → Nat) (cI cJ cZ : ClassId) (q0 q1 q2 q3 : Nat) (w : Nat → Int64) (o d : Nat → Int32) (n : Nat) (V O E : Nat → Nat) (hD : bDD w o d n V O E) (k : Nat) (hkn : k < n) : Met l yX0_sharedAhead wsX0_sharedAhead rm_X0_sharedAhead (rPc (dC, dI) (tysA cI cJ cZ) (wd q0 q1 q2 q3 cI cJ w o d n) [.ref (q0), .int (nI (k))]) (Ri (nM (bah V k))) 0 0 (fun _ => False) := by
  refine met_r (cc := cX0_sharedAhead) (maxL := 2) (ret := (some .int)) (own := RX0) (by decide) rfl rfl (Nat.le_of_ble_eq_true rfl) ?_
  intro p e s m below meth c S hr hlocks hP hK ls hl
  obtain ⟨hx, hb, hml, hown, hts⟩ := id S
  have hl : lv_has ls 2 [(0, .ref (q0)), (1, .int (nI (k)))] := hl
  have hi0 : ∀ w ∈ wsX00, w ∈ wsX0_sharedAhead := fun _ h => List.mem_cons_of_mem _ (List.mem_append_right _ h)
  obtain ⟨hn, hk⟩ := id hD
  refine lv_iload_n hx hb dX0_sharedAhead_0 rfl (lv_at hl 1 rfl) ?_
  refine z_gt (tgt := 8) hx hb dX0_sharedAhead_1 (by decide) (by omega) (fun c_1 => ?_) (fun c_1 => ?_)
  · refine lv_aload_n hx hb dX0_sharedAhead_8 rfl (lv_at hl 0 rfl) ?_
    refine lv_iload_n hx hb dX0_sharedAhead_9 rfl (lv_at hl 1 rfl) ?_
    refine lv_iconst (v := nI (1)) hx hb dX0_sharedAhead_10 (by decide) ?_
    refine lv_isub hx hb dX0_sharedAhead_11 ?_
    refine tpi (pk_sub (by omega)) ?_
    refine c_Vl (As := [.int (nI (k - 1))]) (rest := []) (ci := 0) (q0 := 0) S (c_X0_wordAt_in l dC dI cI cJ cZ q0 q1 q2 q3 w o d n V O E hD (k - 1) (by omega)) (cwV 1 hts gX0_sharedAhead_X0_wordAt rfl rfl rfl (by decide +kernel) ⟨Nat.le_of_ble_eq_true rfl, Nat.le_of_ble_eq_true rfl⟩) hK hP rfl rfl rfl hl.1 rfl (Nat.le_of_ble_eq_true rfl) dX0_sharedAhead_12 ⟨Nat.le_of_ble_eq_true rfl, Nat.le_of_ble_eq_true rfl⟩ ?_
    refine lv_aload_n hx hb dX0_sharedAhead_15 rfl (lv_at hl 0 rfl) ?_
    refine lv_iload_n hx hb dX0_sharedAhead_16 rfl (lv_at hl 1 rfl) ?_
    refine c_Vl (As := [.int (nI (k))]) (rest := [.long (lN (be8 (V (k - 1))))]) (ci := 0) (q0 := 0) S (c_X0_wordAt_in l dC dI cI cJ cZ q0 q1 q2 q3 w o d n V O E hD k (by omega)) (cwV 1 hts gX0_sharedAhead_X0_wordAt rfl rfl rfl (by decide +kernel) ⟨Nat.le_of_ble_eq_true rfl, Nat.le_of_ble_eq_true rfl⟩) hK hP rfl rfl rfl hl.1 rfl (Nat.le_of_ble_eq_true rfl) dX0_sharedAhead_17 ⟨Nat.le_of_ble_eq_true rfl, Nat.le_of_ble_eq_true rfl⟩ ?_
    refine c_Si (As := [.long (lN (be8 (V (k - 1)))), .long (lN (be8 (V k)))]) (rest := []) S (c_X3_sharedBy l (V (k - 1)) (V k)) (va_cwS 2 hts gX0_sharedAhead_X3_sharedBy rfl rfl rfl (by decide +kernel) ⟨Nat.le_of_ble_eq_true rfl, Nat.le_of_ble_eq_true rfl⟩) rfl hl.1 rfl (Nat.le_of_ble_eq_true rfl) dX0_sharedAhead_20 ⟨Nat.le_of_ble_eq_true rfl, Nat.le_of_ble_eq_true rfl⟩ ?_
    exact r_i hx hb hr hlocks (by unfold bah; rw [if_neg (by omega)]; exact (nM_s _).symm) dX0_sharedAhead_23
  · refine lv_iconst (v := nM 0) hx hb dX0_sharedAhead_4 (by decide) ?_
    refine lv_goto (tgt := 23) hx hb dX0_sharedAhead_5 (by decide) ?_
    exact r_i hx hb hr hlocks (by unfold bah; rw [if_pos c_1]) dX0_sharedAhead_23
abbrev rm_X0_nodes : Room := { frames := 4, cells := 0, slots := 0, locals := 87 }
set_option maxHeartbeats 4000000 in
set_option maxRecDepth 100000 in
theorem c_X0_nodes (l : Launch) (dC : Nat → ClassId) (dI : Nat → Nat → Nat) (cI cJ cZ : ClassId) (q0 q1 q2 q3 : Nat) (w : Nat → Int64) (o d : Nat → Int32) (n : Nat) (V O E : Nat → Nat) (hD : bDD w o d n V O E) : Met l yX0_nodes wsX0_nodes rm_X0_nodes (rPc (dC, dI) (tysA cI cJ cZ) (wd q0 q1 q2 q3 cI cJ w o d n) [.ref (q0)]) (Ri (nI (fb_sm (fun k => E k - bah V k) n))) 0 0 (fun _ => False) := by
  refine met_r (cc := cX0_nodes) (maxL := 3) (ret := (some .int)) (own := RX0) (by decide) rfl rfl (Nat.le_of_ble_eq_true rfl) ?_
  intro p e s m below meth c S hr hlocks hP hK ls hl
  obtain ⟨hx, hb, hml, hown, hts⟩ := id S
  have hl : lv_has ls 3 [(0, .ref (q0))] := hl
  have hi0 : ∀ w ∈ wsX00, w ∈ wsX0_nodes := fun _ h => List.mem_cons_of_mem _ (List.mem_append_right _ h)
  obtain ⟨hn, hk⟩ := id hD
  refine lv_iconst (v := nI (0)) hx hb dX0_nodes_0 (by decide) ?_
  refine lv_istore_n (lv' := [(1, .int (nI (0))), (0, .ref (q0))]) hx hb dX0_nodes_1 rfl hl (by decide) rfl (fun ls hl => ?_)
  refine lv_iconst (v := nI (0)) hx hb dX0_nodes_2 (by decide) ?_
  refine lv_istore_n (lv' := [(2, .int (nI (0))), (1, .int (nI (0))), (0, .ref (q0))]) hx hb dX0_nodes_3 rfl hl (by decide) rfl (fun ls hl => ?_)
  have lp_4 : ∀ (j_4 : Nat) (i : Nat), (i ≤ n) → (n - i) < j_4 → ∀ ls : Array Slot, lv_has ls 3 [(0, .ref (q0)), (1, .int (nI (fb_sm (fun k => E k - bah V k) i))), (2, .int (nI (i)))] → W p l e rm_X0_nodes s m ([.ref (q0)] : List Value).toArray below meth c s.heap [] 0 0 (MQ below (Ri (nI (fb_sm (fun k => E k - bah V k) n))) ([.ref (q0)] : List Value).toArray s 0 0 (fun _ => False)) (F0 m 4 ls []) := by
    intro j_4
    induction j_4 with
    | zero => intro i _ h0; exact absurd h0 (Nat.not_lt_zero _)
    | succ j_4 ih_4 =>
      intro i hi hf_4 ls hl
      refine lv_iload_n hx hb dX0_nodes_4 rfl (lv_at hl 2 rfl) ?_
      refine lv_aload_n hx hb dX0_nodes_5 rfl (lv_at hl 0 rfl) ?_
      refine va_get (D := (dC, dI)) (ci := 0) (v := .int (nI (n))) (C := RX0) (T := TX0) (N := 4) hx hb hts hi0 hown hK hP 0 rfl rfl 3 (by decide) (hts (.fieldLink RX0 22 "BurstWords$Dictionary" "size" "I") (by decide +kernel)) (fun _ h9 => h9) rfl dX0_nodes_6 ?_
      refine n_ge (tgt := 38) hx hb dX0_nodes_9 (by decide) (by omega) (by omega) (fun c_9 => ?_) (fun c_9 => ?_)
      · refine lv_iload_n hx hb dX0_nodes_38 rfl (lv_at hl 1 rfl) ?_
        exact r_i hx hb hr hlocks (by rw [show i = n by omega]) dX0_nodes_39
      · refine lv_iload_n hx hb dX0_nodes_12 rfl (lv_at hl 1 rfl) ?_
        refine lv_iconst (v := nI (0)) hx hb dX0_nodes_13 (by decide) ?_
        refine lv_aload_n hx hb dX0_nodes_14 rfl (lv_at hl 0 rfl) ?_
        refine lv_iload_n hx hb dX0_nodes_15 rfl (lv_at hl 2 rfl) ?_
        refine c_Vi (As := [.int (nI (i))]) (rest := [.int (nI (0)), .int (nI (fb_sm (fun k => E k - bah V k) i))]) (ci := 0) (q0 := 0) S (c_X0_depthAt_in l dC dI cI cJ cZ q0 q1 q2 q3 w o d n V O E hD i (by omega)) (cwV 1 hts gX0_nodes_X0_depthAt rfl rfl rfl (by decide +kernel) ⟨Nat.le_of_ble_eq_true rfl, Nat.le_of_ble_eq_true rfl⟩) hK hP rfl rfl rfl hl.1 rfl (Nat.le_of_ble_eq_true rfl) dX0_nodes_16 ⟨Nat.le_of_ble_eq_true rfl, Nat.le_of_ble_eq_true rfl⟩ ?_
        refine lv_aload_n hx hb dX0_nodes_19 rfl (lv_at hl 0 rfl) ?_
        refine lv_iload_n hx hb dX0_nodes_20 rfl (lv_at hl 2 rfl) ?_
        refine c_Vi (As := [.int (nI (i))]) (rest := [.int (nI (E i)), .int (nI (0)), .int (nI (fb_sm (fun k => E k - bah V k) i))]) (ci := 0) (q0 := 0) S (c_X0_sharedAhead l dC dI cI cJ cZ q0 q1 q2 q3 w o d n V O E hD i (by omega)) (cwV 1 hts gX0_nodes_X0_sharedAhead rfl rfl rfl (by decide +kernel) ⟨Nat.le_of_ble_eq_true rfl, Nat.le_of_ble_eq_true rfl⟩) hK hP rfl rfl rfl hl.1 rfl (Nat.le_of_ble_eq_true rfl) dX0_nodes_21 ⟨Nat.le_of_ble_eq_true rfl, Nat.le_of_ble_eq_true rfl⟩ ?_
        refine lv_iconst (v := nI (1)) hx hb dX0_nodes_24 (by decide) ?_
        refine lv_iadd hx hb dX0_nodes_25 ?_
        refine tpi (nM_1 _) ?_
        refine lv_isub hx hb dX0_nodes_26 ?_
        refine va_mmax hx hb (hml.trans hl.1.symm) hown (hts (.methodLink RX0 74 Lib.Math.max.name) (by decide +kernel)) (hts (.static Lib.Math.max.name) (by decide +kernel)) (hts (.initialized "java/lang/Math") (by decide +kernel)) (hts (.code Lib.Math.max.name Lib.Math.max.code 2 (some .int)) (by decide +kernel)) (Nat.le_of_ble_eq_true rfl) (Nat.le_of_ble_eq_true rfl) (Nat.le_of_ble_eq_true rfl) (Nat.le_of_ble_eq_true rfl) dX0_nodes_27 ?_
        refine tpi (nmaxs (Nat.lt_of_le_of_lt (hk _ c_9).2.2.2.2.2.2 (by decide)) (Nat.lt_of_le_of_lt (bah_le _ _) (by decide))) ?_
        refine lv_iadd hx hb dX0_nodes_30 ?_
        refine tpi (nI_add _ _) ?_
        refine lv_istore_n (lv' := [(1, .int (nI ((fb_sm (fun k => E k - bah V k) i) + (E i - bah V i)))), (0, .ref (q0)), (2, .int (nI (i)))]) hx hb dX0_nodes_31 rfl hl (by decide) rfl (fun ls hl => ?_)
        refine lv_iinc (v := nI (i + 1)) (lv' := [(2, .int (nI (i + 1))), (1, .int (nI ((fb_sm (fun k => E k - bah V k) i) + (E i - bah V i)))), (0, .ref (q0))]) hx hb dX0_nodes_32 hl (k := 2) rfl (inc1 _) (by decide) rfl (fun ls hl => ?_)
        refine lv_goto (tgt := 4) hx hb dX0_nodes_35 (by decide) ?_
        exact ih_4 (i + 1) (by omega) (by omega) ls (lv_sub hl [2, 1, 0] rfl)
  exact lp_4 _ (0) (by omega) (Nat.lt_succ_self _) ls (lv_sub hl [2, 1, 0] rfl)
abbrev rm_X0_isContained : Room := { frames := 3, cells := 0, slots := 0, locals := 64 }
set_option maxHeartbeats 4000000 in
set_option maxRecDepth 100000 in
theorem c_X0_isContained (l : Launch) (dC : Nat → ClassId) (dI : Nat → Nat → Nat) (cI cJ cZ : ClassId) (q0 q1 q2 q3 : Nat) (w : Nat → Int64) (o d : Nat → Int32) (n : Nat) (V O E : Nat → Nat) (hD : bDD w o d n V O E) (k : Nat) (hkn : k < n) : Met l yX0_isContained wsX0_isContained rm_X0_isContained (rPc (dC, dI) (tysA cI cJ cZ) (wd q0 q1 q2 q3 cI cJ w o d n) [.ref (q0), .int (nI (k))]) (Ri (bI (bct V E k))) 0 0 (fun _ => False) := by
  refine met_r (cc := cX0_isContained) (maxL := 2) (ret := (some .boolean)) (own := RX0) (by decide) rfl rfl (Nat.le_of_ble_eq_true rfl) ?_
  intro p e s m below meth c S hr hlocks hP hK ls hl
  obtain ⟨hx, hb, hml, hown, hts⟩ := id S
  have hl : lv_has ls 2 [(0, .ref (q0)), (1, .int (nI (k)))] := hl
  have hi0 : ∀ w ∈ wsX00, w ∈ wsX0_isContained := fun _ h => List.mem_cons_of_mem _ (List.mem_append_right _ h)
  obtain ⟨hn, hk⟩ := id hD
  refine lv_aload_n hx hb dX0_isContained_0 rfl (lv_at hl 0 rfl) ?_
  refine lv_iload_n hx hb dX0_isContained_1 rfl (lv_at hl 1 rfl) ?_
  refine c_Vi (As := [.int (nI (k))]) (rest := []) (ci := 0) (q0 := 0) S (c_X0_depthAt_in l dC dI cI cJ cZ q0 q1 q2 q3 w o d n V O E hD k (by omega)) (cwV 1 hts gX0_isContained_X0_depthAt rfl rfl rfl (by decide +kernel) ⟨Nat.le_of_ble_eq_true rfl, Nat.le_of_ble_eq_true rfl⟩) hK hP rfl rfl rfl hl.1 rfl (Nat.le_of_ble_eq_true rfl) dX0_isContained_2 ⟨Nat.le_of_ble_eq_true rfl, Nat.le_of_ble_eq_true rfl⟩ ?_
  refine lv_aload_n hx hb dX0_isContained_5 rfl (lv_at hl 0 rfl) ?_
  refine lv_iload_n hx hb dX0_isContained_6 rfl (lv_at hl 1 rfl) ?_
  refine c_Vl (As := [.int (nI (k))]) (rest := [.int (nI (E k))]) (ci := 0) (q0 := 0) S (c_X0_wordAt_in l dC dI cI cJ cZ q0 q1 q2 q3 w o d n V O E hD k (by omega)) (cwV 1 hts gX0_isContained_X0_wordAt rfl rfl rfl (by decide +kernel) ⟨Nat.le_of_ble_eq_true rfl, Nat.le_of_ble_eq_true rfl⟩) hK hP rfl rfl rfl hl.1 rfl (Nat.le_of_ble_eq_true rfl) dX0_isContained_7 ⟨Nat.le_of_ble_eq_true rfl, Nat.le_of_ble_eq_true rfl⟩ ?_
  refine c_Si (As := [.long (lN (be8 (V k)))]) (rest := [.int (nI (E k))]) S (c_X3_lengthOf l (V k)) (va_cwS 1 hts gX0_isContained_X3_lengthOf rfl rfl rfl (by decide +kernel) ⟨Nat.le_of_ble_eq_true rfl, Nat.le_of_ble_eq_true rfl⟩) rfl hl.1 rfl (Nat.le_of_ble_eq_true rfl) dX0_isContained_10 ⟨Nat.le_of_ble_eq_true rfl, Nat.le_of_ble_eq_true rfl⟩ ?_
  refine n_gt (tgt := 20) hx hb dX0_isContained_13 (by decide) (Nat.lt_of_le_of_lt (hk _ (by omega)).2.2.2.2.2.2 (by decide)) (Nat.lt_of_le_of_lt (bln_le _) (by decide)) (fun c_13 => ?_) (fun c_13 => ?_)
  · refine lv_iconst (v := nI (0)) hx hb dX0_isContained_20 (by decide) ?_
    exact r_z (x := false) hx hb hr hlocks rfl (by unfold bct; simp; omega) dX0_isContained_21
  · refine lv_iconst (v := nI (1)) hx hb dX0_isContained_16 (by decide) ?_
    refine lv_goto (tgt := 21) hx hb dX0_isContained_17 (by decide) ?_
    exact r_z (x := true) hx hb hr hlocks rfl (by unfold bct; simp; omega) dX0_isContained_21
abbrev rm_X0_opensContainer : Room := { frames := 4, cells := 0, slots := 0, locals := 87 }
set_option maxHeartbeats 4000000 in
set_option maxRecDepth 100000 in
theorem c_X0_opensContainer (l : Launch) (dC : Nat → ClassId) (dI : Nat → Nat → Nat) (cI cJ cZ : ClassId) (q0 q1 q2 q3 : Nat) (w : Nat → Int64) (o d : Nat → Int32) (n : Nat) (V O E : Nat → Nat) (hD : bDD w o d n V O E) (k : Nat) (hkn : k < n) : Met l yX0_opensContainer wsX0_opensContainer rm_X0_opensContainer (rPc (dC, dI) (tysA cI cJ cZ) (wd q0 q1 q2 q3 cI cJ w o d n) [.ref (q0), .int (nI (k))]) (Ri (bI (bop V E k))) 0 0 (fun _ => False) := by
  refine met_r (cc := cX0_opensContainer) (maxL := 2) (ret := (some .boolean)) (own := RX0) (by decide) rfl rfl (Nat.le_of_ble_eq_true rfl) ?_
  intro p e s m below meth c S hr hlocks hP hK ls hl
  obtain ⟨hx, hb, hml, hown, hts⟩ := id S
  have hl : lv_has ls 2 [(0, .ref (q0)), (1, .int (nI (k)))] := hl
  have hi0 : ∀ w ∈ wsX00, w ∈ wsX0_opensContainer := fun _ h => List.mem_cons_of_mem _ (List.mem_append_right _ h)
  obtain ⟨hn, hk⟩ := id hD
  have hE8 := (hk k hkn).2.2.2.2.2.2
  have hA8 := bah_le V k
  refine lv_aload_n hx hb dX0_opensContainer_0 rfl (lv_at hl 0 rfl) ?_
  refine lv_iload_n hx hb dX0_opensContainer_1 rfl (lv_at hl 1 rfl) ?_
  refine c_Vi (As := [.int (nI (k))]) (rest := []) (ci := 0) (q0 := 0) S (c_X0_isContained l dC dI cI cJ cZ q0 q1 q2 q3 w o d n V O E hD k (by omega)) (cwV 1 hts gX0_opensContainer_X0_isContained rfl rfl rfl (by decide +kernel) ⟨Nat.le_of_ble_eq_true rfl, Nat.le_of_ble_eq_true rfl⟩) hK hP rfl rfl rfl hl.1 rfl (Nat.le_of_ble_eq_true rfl) dX0_opensContainer_2 ⟨Nat.le_of_ble_eq_true rfl, Nat.le_of_ble_eq_true rfl⟩ ?_
  refine b_eq (tgt := 25) hx hb dX0_opensContainer_5 (by decide) (fun c_5 => ?_) (fun c_5 => ?_)
  · refine lv_iconst (v := nI (0)) hx hb dX0_opensContainer_25 (by decide) ?_
    exact r_z (x := false) hx hb hr hlocks rfl (by unfold bop; rw [c_5]; rfl) dX0_opensContainer_26
  · refine lv_aload_n hx hb dX0_opensContainer_8 rfl (lv_at hl 0 rfl) ?_
    refine lv_iload_n hx hb dX0_opensContainer_9 rfl (lv_at hl 1 rfl) ?_
    refine c_Vi (As := [.int (nI (k))]) (rest := []) (ci := 0) (q0 := 0) S (c_X0_sharedAhead l dC dI cI cJ cZ q0 q1 q2 q3 w o d n V O E hD k (by omega)) (cwV 1 hts gX0_opensContainer_X0_sharedAhead rfl rfl rfl (by decide +kernel) ⟨Nat.le_of_ble_eq_true rfl, Nat.le_of_ble_eq_true rfl⟩) hK hP rfl rfl rfl hl.1 rfl (Nat.le_of_ble_eq_true rfl) dX0_opensContainer_10 ⟨Nat.le_of_ble_eq_true rfl, Nat.le_of_ble_eq_true rfl⟩ ?_
    refine lv_aload_n hx hb dX0_opensContainer_13 rfl (lv_at hl 0 rfl) ?_
    refine lv_iload_n hx hb dX0_opensContainer_14 rfl (lv_at hl 1 rfl) ?_
    refine c_Vi (As := [.int (nI (k))]) (rest := [.int (nM (bah V k))]) (ci := 0) (q0 := 0) S (c_X0_depthAt_in l dC dI cI cJ cZ q0 q1 q2 q3 w o d n V O E hD k (by omega)) (cwV 1 hts gX0_opensContainer_X0_depthAt rfl rfl rfl (by decide +kernel) ⟨Nat.le_of_ble_eq_true rfl, Nat.le_of_ble_eq_true rfl⟩) hK hP rfl rfl rfl hl.1 rfl (Nat.le_of_ble_eq_true rfl) dX0_opensContainer_15 ⟨Nat.le_of_ble_eq_true rfl, Nat.le_of_ble_eq_true rfl⟩ ?_
    refine lv_icmp_ge (tgt := 25) hx hb dX0_opensContainer_18 (by decide) (fun c_18 => ?_) (fun c_18 => ?_)
    · refine lv_iconst (v := nI (0)) hx hb dX0_opensContainer_25 (by decide) ?_
      exact r_z (x := false) hx hb hr hlocks rfl (by unfold bop; rw [c_5]; rw [nM_ge (by omega) (by omega)] at c_18; simp; omega) dX0_opensContainer_26
    · refine lv_iconst (v := nI (1)) hx hb dX0_opensContainer_21 (by decide) ?_
      refine lv_goto (tgt := 26) hx hb dX0_opensContainer_22 (by decide) ?_
      exact r_z (x := true) hx hb hr hlocks rfl (by unfold bop; rw [c_5]; rw [nM_ge (by omega) (by omega)] at c_18; simp; omega) dX0_opensContainer_26
abbrev rm_X0_containers : Room := { frames := 5, cells := 0, slots := 0, locals := 108 }
set_option maxHeartbeats 4000000 in
set_option maxRecDepth 100000 in
theorem c_X0_containers (l : Launch) (dC : Nat → ClassId) (dI : Nat → Nat → Nat) (cI cJ cZ : ClassId) (q0 q1 q2 q3 : Nat) (w : Nat → Int64) (o d : Nat → Int32) (n : Nat) (V O E : Nat → Nat) (hD : bDD w o d n V O E) : Met l yX0_containers wsX0_containers rm_X0_containers (rPc (dC, dI) (tysA cI cJ cZ) (wd q0 q1 q2 q3 cI cJ w o d n) [.ref (q0)]) (Ri (nI (fb_ct (bop V E) n))) 0 0 (fun _ => False) := by
  refine met_r (cc := cX0_containers) (maxL := 3) (ret := (some .int)) (own := RX0) (by decide) rfl rfl (Nat.le_of_ble_eq_true rfl) ?_
  intro p e s m below meth c S hr hlocks hP hK ls hl
  obtain ⟨hx, hb, hml, hown, hts⟩ := id S
  have hl : lv_has ls 3 [(0, .ref (q0))] := hl
  have hi0 : ∀ w ∈ wsX00, w ∈ wsX0_containers := fun _ h => List.mem_cons_of_mem _ (List.mem_append_right _ h)
  obtain ⟨hn, hk⟩ := id hD
  refine lv_iconst (v := nI (0)) hx hb dX0_containers_0 (by decide) ?_
  refine lv_istore_n (lv' := [(1, .int (nI (0))), (0, .ref (q0))]) hx hb dX0_containers_1 rfl hl (by decide) rfl (fun ls hl => ?_)
  refine lv_iconst (v := nI (0)) hx hb dX0_containers_2 (by decide) ?_
  refine lv_istore_n (lv' := [(2, .int (nI (0))), (1, .int (nI (0))), (0, .ref (q0))]) hx hb dX0_containers_3 rfl hl (by decide) rfl (fun ls hl => ?_)
  have lp_4 : ∀ (j_4 : Nat) (i : Nat), (i ≤ n) → (n - i) < j_4 → ∀ ls : Array Slot, lv_has ls 3 [(0, .ref (q0)), (1, .int (nI (fb_ct (bop V E) i))), (2, .int (nI (i)))] → W p l e rm_X0_containers s m ([.ref (q0)] : List Value).toArray below meth c s.heap [] 0 0 (MQ below (Ri (nI (fb_ct (bop V E) n))) ([.ref (q0)] : List Value).toArray s 0 0 (fun _ => False)) (F0 m 4 ls []) := by
    intro j_4
    induction j_4 with
    | zero => intro i _ h0; exact absurd h0 (Nat.not_lt_zero _)
    | succ j_4 ih_4 =>
      intro i hi hf_4 ls hl
      refine lv_iload_n hx hb dX0_containers_4 rfl (lv_at hl 2 rfl) ?_
      refine lv_aload_n hx hb dX0_containers_5 rfl (lv_at hl 0 rfl) ?_
      refine va_get (D := (dC, dI)) (ci := 0) (v := .int (nI (n))) (C := RX0) (T := TX0) (N := 4) hx hb hts hi0 hown hK hP 0 rfl rfl 3 (by decide) (hts (.fieldLink RX0 22 "BurstWords$Dictionary" "size" "I") (by decide +kernel)) (fun _ h9 => h9) rfl dX0_containers_6 ?_
      refine n_ge (tgt := 29) hx hb dX0_containers_9 (by decide) (by omega) (by omega) (fun c_9 => ?_) (fun c_9 => ?_)
      · refine lv_iload_n hx hb dX0_containers_29 rfl (lv_at hl 1 rfl) ?_
        exact r_i hx hb hr hlocks (by rw [show i = n by omega]) dX0_containers_30
      · refine lv_aload_n hx hb dX0_containers_12 rfl (lv_at hl 0 rfl) ?_
        refine lv_iload_n hx hb dX0_containers_13 rfl (lv_at hl 2 rfl) ?_
        refine c_Vi (As := [.int (nI (i))]) (rest := []) (ci := 0) (q0 := 0) S (c_X0_opensContainer l dC dI cI cJ cZ q0 q1 q2 q3 w o d n V O E hD i (by omega)) (cwV 1 hts gX0_containers_X0_opensContainer rfl rfl rfl (by decide +kernel) ⟨Nat.le_of_ble_eq_true rfl, Nat.le_of_ble_eq_true rfl⟩) hK hP rfl rfl rfl hl.1 rfl (Nat.le_of_ble_eq_true rfl) dX0_containers_14 ⟨Nat.le_of_ble_eq_true rfl, Nat.le_of_ble_eq_true rfl⟩ ?_
        refine b_eq (tgt := 23) hx hb dX0_containers_17 (by decide) (fun c_17 => ?_) (fun c_17 => ?_)
        · refine lv_iinc (v := nI (i + 1)) (lv' := [(2, .int (nI (i + 1))), (0, .ref (q0)), (1, .int (nI (fb_ct (bop V E) i)))]) hx hb dX0_containers_23 hl (k := 2) rfl (inc1 _) (by decide) rfl (fun ls hl => ?_)
          refine lv_goto (tgt := 4) hx hb dX0_containers_26 (by decide) ?_
          exact ih_4 (i + 1) (by omega) (by omega) ls (lv_cg (l := [(0, .ref (q0)), (1, .int (nI (fb_ct (bop V E) i))), (2, .int (nI (i + 1)))]) (lv_sub hl [1, 2, 0] rfl) (by rw [ct_n (p := bop V E) (n := i) c_17]))
        · refine lv_iinc (v := nI ((fb_ct (bop V E) i) + 1)) (lv' := [(1, .int (nI ((fb_ct (bop V E) i) + 1))), (0, .ref (q0)), (2, .int (nI (i)))]) hx hb dX0_containers_20 hl (k := 1) rfl (inc1 _) (by decide) rfl (fun ls hl => ?_)
          refine lv_iinc (v := nI (i + 1)) (lv' := [(2, .int (nI (i + 1))), (1, .int (nI ((fb_ct (bop V E) i) + 1))), (0, .ref (q0))]) hx hb dX0_containers_23 hl (k := 2) rfl (inc1 _) (by decide) rfl (fun ls hl => ?_)
          refine lv_goto (tgt := 4) hx hb dX0_containers_26 (by decide) ?_
          exact ih_4 (i + 1) (by omega) (by omega) ls (lv_cg (l := [(0, .ref (q0)), (1, .int (nI ((fb_ct (bop V E) i) + 1))), (2, .int (nI (i + 1)))]) (lv_sub hl [2, 1, 0] rfl) (by rw [ct_y (p := bop V E) (n := i) c_17]))
  exact lp_4 _ (0) (by omega) (Nat.lt_succ_self _) ls (lv_sub hl [2, 1, 0] rfl)
abbrev rm_X0_fullest : Room := { frames := 5, cells := 0, slots := 0, locals := 108 }
set_option maxHeartbeats 4000000 in
set_option maxRecDepth 100000 in
theorem c_X0_fullest (l : Launch) (dC : Nat → ClassId) (dI : Nat → Nat → Nat) (cI cJ cZ : ClassId) (q0 q1 q2 q3 : Nat) (w : Nat → Int64) (o d : Nat → Int32) (n : Nat) (V O E : Nat → Nat) (hD : bDD w o d n V O E) : Met l yX0_fullest wsX0_fullest rm_X0_fullest (rPc (dC, dI) (tysA cI cJ cZ) (wd q0 q1 q2 q3 cI cJ w o d n) [.ref (q0)]) (Ri (nI ((bfh V E n).1))) 0 0 (fun _ => False) := by
  refine met_r (cc := cX0_fullest) (maxL := 4) (ret := (some .int)) (own := RX0) (by decide) rfl rfl (Nat.le_of_ble_eq_true rfl) ?_
  intro p e s m below meth c S hr hlocks hP hK ls hl
  obtain ⟨hx, hb, hml, hown, hts⟩ := id S
  have hl : lv_has ls 4 [(0, .ref (q0))] := hl
  have hi0 : ∀ w ∈ wsX00, w ∈ wsX0_fullest := fun _ h => List.mem_cons_of_mem _ (List.mem_append_right _ h)
  obtain ⟨hn, hk⟩ := id hD
  have hfh := bfh_le V E
  refine lv_iconst (v := nI (0)) hx hb dX0_fullest_0 (by decide) ?_
  refine lv_istore_n (lv' := [(1, .int (nI (0))), (0, .ref (q0))]) hx hb dX0_fullest_1 rfl hl (by decide) rfl (fun ls hl => ?_)
  refine lv_iconst (v := nI (0)) hx hb dX0_fullest_2 (by decide) ?_
  refine lv_istore_n (lv' := [(2, .int (nI (0))), (1, .int (nI (0))), (0, .ref (q0))]) hx hb dX0_fullest_3 rfl hl (by decide) rfl (fun ls hl => ?_)
  refine lv_iconst (v := nI (0)) hx hb dX0_fullest_4 (by decide) ?_
  refine lv_istore_n (lv' := [(3, .int (nI (0))), (2, .int (nI (0))), (1, .int (nI (0))), (0, .ref (q0))]) hx hb dX0_fullest_5 rfl hl (by decide) rfl (fun ls hl => ?_)
  have lp_6 : ∀ (j_6 : Nat) (i : Nat), (i ≤ n) → (n - i) < j_6 → ∀ ls : Array Slot, lv_has ls 4 [(0, .ref (q0)), (1, .int (nI ((bfh V E i).1))), (2, .int (nI ((bfh V E i).2))), (3, .int (nI (i)))] → W p l e rm_X0_fullest s m ([.ref (q0)] : List Value).toArray below meth c s.heap [] 0 0 (MQ below (Ri (nI ((bfh V E n).1))) ([.ref (q0)] : List Value).toArray s 0 0 (fun _ => False)) (F0 m 6 ls []) := by
    intro j_6
    induction j_6 with
    | zero => intro i _ h0; exact absurd h0 (Nat.not_lt_zero _)
    | succ j_6 ih_6 =>
      intro i hi hf_6 ls hl
      refine lv_iload_n hx hb dX0_fullest_6 rfl (lv_at hl 3 rfl) ?_
      refine lv_aload_n hx hb dX0_fullest_7 rfl (lv_at hl 0 rfl) ?_
      refine va_get (D := (dC, dI)) (ci := 0) (v := .int (nI (n))) (C := RX0) (T := TX0) (N := 4) hx hb hts hi0 hown hK hP 0 rfl rfl 3 (by decide) (hts (.fieldLink RX0 22 "BurstWords$Dictionary" "size" "I") (by decide +kernel)) (fun _ h9 => h9) rfl dX0_fullest_8 ?_
      refine n_ge (tgt := 50) hx hb dX0_fullest_11 (by decide) (by omega) (by omega) (fun c_11 => ?_) (fun c_11 => ?_)
      · refine lv_iload_n hx hb dX0_fullest_50 rfl (lv_at hl 1 rfl) ?_
        exact r_i hx hb hr hlocks (by rw [show i = n by omega]) dX0_fullest_51
      · refine lv_aload_n hx hb dX0_fullest_14 rfl (lv_at hl 0 rfl) ?_
        refine lv_iload_n hx hb dX0_fullest_15 rfl (lv_at hl 3 rfl) ?_
        refine c_Vi (As := [.int (nI (i))]) (rest := []) (ci := 0) (q0 := 0) S (c_X0_isContained l dC dI cI cJ cZ q0 q1 q2 q3 w o d n V O E hD i (by omega)) (cwV 1 hts gX0_fullest_X0_isContained rfl rfl rfl (by decide +kernel) ⟨Nat.le_of_ble_eq_true rfl, Nat.le_of_ble_eq_true rfl⟩) hK hP rfl rfl rfl hl.1 rfl (Nat.le_of_ble_eq_true rfl) dX0_fullest_16 ⟨Nat.le_of_ble_eq_true rfl, Nat.le_of_ble_eq_true rfl⟩ ?_
        refine b_eq (tgt := 44) hx hb dX0_fullest_19 (by decide) (fun c_19 => ?_) (fun c_19 => ?_)
        · refine lv_iinc (v := nI (i + 1)) (lv' := [(3, .int (nI (i + 1))), (0, .ref (q0)), (1, .int (nI ((bfh V E i).1))), (2, .int (nI ((bfh V E i).2)))]) hx hb dX0_fullest_44 hl (k := 3) rfl (inc1 _) (by decide) rfl (fun ls hl => ?_)
          refine lv_goto (tgt := 6) hx hb dX0_fullest_47 (by decide) ?_
          exact ih_6 (i + 1) (by omega) (by omega) ls (lv_cg (l := [(0, .ref (q0)), (1, .int (nI ((bfh V E i).1))), (2, .int (nI ((bfh V E i).2))), (3, .int (nI (i + 1)))]) (lv_sub hl [1, 2, 3, 0] rfl) (by rw [bfh, if_neg (by simp [c_19])]))
        · refine lv_aload_n hx hb dX0_fullest_22 rfl (lv_at hl 0 rfl) ?_
          refine lv_iload_n hx hb dX0_fullest_23 rfl (lv_at hl 3 rfl) ?_
          refine c_Vi (As := [.int (nI (i))]) (rest := []) (ci := 0) (q0 := 0) S (c_X0_opensContainer l dC dI cI cJ cZ q0 q1 q2 q3 w o d n V O E hD i (by omega)) (cwV 1 hts gX0_fullest_X0_opensContainer rfl rfl rfl (by decide +kernel) ⟨Nat.le_of_ble_eq_true rfl, Nat.le_of_ble_eq_true rfl⟩) hK hP rfl rfl rfl hl.1 rfl (Nat.le_of_ble_eq_true rfl) dX0_fullest_24 ⟨Nat.le_of_ble_eq_true rfl, Nat.le_of_ble_eq_true rfl⟩ ?_
          refine b_eq (tgt := 34) hx hb dX0_fullest_27 (by decide) (fun c_27 => ?_) (fun c_27 => ?_)
          · refine lv_iload_n hx hb dX0_fullest_34 rfl (lv_at hl 2 rfl) ?_
            refine lv_iconst (v := nI (1)) hx hb dX0_fullest_35 (by decide) ?_
            refine lv_iadd hx hb dX0_fullest_36 ?_
            refine tpi (nI_add _ _) ?_
            refine lv_istore_n (lv' := [(2, .int (nI (((bfh V E i).2) + 1))), (0, .ref (q0)), (1, .int (nI ((bfh V E i).1))), (3, .int (nI (i)))]) hx hb dX0_fullest_37 rfl hl (by decide) rfl (fun ls hl => ?_)
            refine lv_iload_n hx hb dX0_fullest_38 rfl (lv_at hl 2 rfl) ?_
            refine lv_iload_n hx hb dX0_fullest_39 rfl (lv_at hl 0 rfl) ?_
            refine va_mmax hx hb (hml.trans hl.1.symm) hown (hts (.methodLink RX0 74 Lib.Math.max.name) (by decide +kernel)) (hts (.static Lib.Math.max.name) (by decide +kernel)) (hts (.initialized "java/lang/Math") (by decide +kernel)) (hts (.code Lib.Math.max.name Lib.Math.max.code 2 (some .int)) (by decide +kernel)) (Nat.le_of_ble_eq_true rfl) (Nat.le_of_ble_eq_true rfl) (Nat.le_of_ble_eq_true rfl) (Nat.le_of_ble_eq_true rfl) dX0_fullest_40 ?_
            refine tpi (nmax (by have := (hfh i).1; omega) (by have := (hfh i).2; omega)) ?_
            refine lv_istore_n (lv' := [(1, .int (nI (max ((bfh V E i).1) (((bfh V E i).2) + 1)))), (2, .int (nI (((bfh V E i).2) + 1))), (0, .ref (q0)), (3, .int (nI (i)))]) hx hb dX0_fullest_43 rfl hl (by decide) rfl (fun ls hl => ?_)
            refine lv_iinc (v := nI (i + 1)) (lv' := [(3, .int (nI (i + 1))), (1, .int (nI (max ((bfh V E i).1) (((bfh V E i).2) + 1)))), (2, .int (nI (((bfh V E i).2) + 1))), (0, .ref (q0))]) hx hb dX0_fullest_44 hl (k := 3) rfl (inc1 _) (by decide) rfl (fun ls hl => ?_)
            refine lv_goto (tgt := 6) hx hb dX0_fullest_47 (by decide) ?_
            exact ih_6 (i + 1) (by omega) (by omega) ls (lv_cg (l := [(0, .ref (q0)), (1, .int (nI (max ((bfh V E i).1) (((bfh V E i).2) + 1)))), (2, .int (nI (((bfh V E i).2) + 1))), (3, .int (nI (i + 1)))]) (lv_sub hl [3, 1, 2, 0] rfl) (by rw [bfh, if_pos c_19, if_neg (by simp [c_27])]))
          · refine lv_iconst (v := nI (1)) hx hb dX0_fullest_30 (by decide) ?_
            refine lv_goto (tgt := 37) hx hb dX0_fullest_31 (by decide) ?_
            refine lv_istore_n (lv' := [(2, .int (nI (1))), (0, .ref (q0)), (1, .int (nI ((bfh V E i).1))), (3, .int (nI (i)))]) hx hb dX0_fullest_37 rfl hl (by decide) rfl (fun ls hl => ?_)
            refine lv_iload_n hx hb dX0_fullest_38 rfl (lv_at hl 2 rfl) ?_
            refine lv_iload_n hx hb dX0_fullest_39 rfl (lv_at hl 0 rfl) ?_
            refine va_mmax hx hb (hml.trans hl.1.symm) hown (hts (.methodLink RX0 74 Lib.Math.max.name) (by decide +kernel)) (hts (.static Lib.Math.max.name) (by decide +kernel)) (hts (.initialized "java/lang/Math") (by decide +kernel)) (hts (.code Lib.Math.max.name Lib.Math.max.code 2 (some .int)) (by decide +kernel)) (Nat.le_of_ble_eq_true rfl) (Nat.le_of_ble_eq_true rfl) (Nat.le_of_ble_eq_true rfl) (Nat.le_of_ble_eq_true rfl) dX0_fullest_40 ?_
            refine tpi (nmax (by have := (hfh i).1; omega) (by have := (hfh i).2; omega)) ?_
            refine lv_istore_n (lv' := [(1, .int (nI (max ((bfh V E i).1) 1))), (2, .int (nI (1))), (0, .ref (q0)), (3, .int (nI (i)))]) hx hb dX0_fullest_43 rfl hl (by decide) rfl (fun ls hl => ?_)
            refine lv_iinc (v := nI (i + 1)) (lv' := [(3, .int (nI (i + 1))), (1, .int (nI (max ((bfh V E i).1) 1))), (2, .int (nI (1))), (0, .ref (q0))]) hx hb dX0_fullest_44 hl (k := 3) rfl (inc1 _) (by decide) rfl (fun ls hl => ?_)
            refine lv_goto (tgt := 6) hx hb dX0_fullest_47 (by decide) ?_
            exact ih_6 (i + 1) (by omega) (by omega) ls (lv_cg (l := [(0, .ref (q0)), (1, .int (nI (max ((bfh V E i).1) 1))), (2, .int (nI (1))), (3, .int (nI (i + 1)))]) (lv_sub hl [3, 1, 2, 0] rfl) (by rw [bfh, if_pos c_19, if_pos c_27]))
  exact lp_6 _ (0) (by omega) (Nat.lt_succ_self _) ls (lv_sub hl [3, 2, 1, 0] rfl)
abbrev rm_X0_deepest : Room := { frames := 2, cells := 0, slots := 0, locals := 42 }
set_option maxHeartbeats 4000000 in
set_option maxRecDepth 100000 in
theorem c_X0_deepest (l : Launch) (dC : Nat → ClassId) (dI : Nat → Nat → Nat) (cI cJ cZ : ClassId) (q0 q1 q2 q3 : Nat) (w : Nat → Int64) (o d : Nat → Int32) (n : Nat) (V O E : Nat → Nat) (hD : bDD w o d n V O E) : Met l yX0_deepest wsX0_deepest rm_X0_deepest (rPc (dC, dI) (tysA cI cJ cZ) (wd q0 q1 q2 q3 cI cJ w o d n) [.ref (q0)]) (Ri (nI (bmx E n))) 0 0 (fun _ => False) := by
  refine met_r (cc := cX0_deepest) (maxL := 3) (ret := (some .int)) (own := RX0) (by decide) rfl rfl (Nat.le_of_ble_eq_true rfl) ?_
  intro p e s m below meth c S hr hlocks hP hK ls hl
  obtain ⟨hx, hb, hml, hown, hts⟩ := id S
  have hl : lv_has ls 3 [(0, .ref (q0))] := hl
  have hi0 : ∀ w ∈ wsX00, w ∈ wsX0_deepest := fun _ h => List.mem_cons_of_mem _ (List.mem_append_right _ h)
  obtain ⟨hn, hk⟩ := id hD
  refine lv_iconst (v := nI (0)) hx hb dX0_deepest_0 (by decide) ?_
  refine lv_istore_n (lv' := [(1, .int (nI (0))), (0, .ref (q0))]) hx hb dX0_deepest_1 rfl hl (by decide) rfl (fun ls hl => ?_)
  refine lv_iconst (v := nI (0)) hx hb dX0_deepest_2 (by decide) ?_
  refine lv_istore_n (lv' := [(2, .int (nI (0))), (1, .int (nI (0))), (0, .ref (q0))]) hx hb dX0_deepest_3 rfl hl (by decide) rfl (fun ls hl => ?_)
  have lp_4 : ∀ (j_4 : Nat) (i : Nat), (i ≤ n) → (n - i) < j_4 → ∀ ls : Array Slot, lv_has ls 3 [(0, .ref (q0)), (1, .int (nI (bmx E i))), (2, .int (nI (i)))] → W p l e rm_X0_deepest s m ([.ref (q0)] : List Value).toArray below meth c s.heap [] 0 0 (MQ below (Ri (nI (bmx E n))) ([.ref (q0)] : List Value).toArray s 0 0 (fun _ => False)) (F0 m 4 ls []) := by
    intro j_4
    induction j_4 with
    | zero => intro i _ h0; exact absurd h0 (Nat.not_lt_zero _)
    | succ j_4 ih_4 =>
      intro i hi hf_4 ls hl
      refine lv_iload_n hx hb dX0_deepest_4 rfl (lv_at hl 2 rfl) ?_
      refine lv_aload_n hx hb dX0_deepest_5 rfl (lv_at hl 0 rfl) ?_
      refine va_get (D := (dC, dI)) (ci := 0) (v := .int (nI (n))) (C := RX0) (T := TX0) (N := 4) hx hb hts hi0 hown hK hP 0 rfl rfl 3 (by decide) (hts (.fieldLink RX0 22 "BurstWords$Dictionary" "size" "I") (by decide +kernel)) (fun _ h9 => h9) rfl dX0_deepest_6 ?_
      refine n_ge (tgt := 28) hx hb dX0_deepest_9 (by decide) (by omega) (by omega) (fun c_9 => ?_) (fun c_9 => ?_)
      · refine lv_iload_n hx hb dX0_deepest_28 rfl (lv_at hl 1 rfl) ?_
        exact r_i hx hb hr hlocks (by rw [show i = n by omega]) dX0_deepest_29
      · refine lv_iload_n hx hb dX0_deepest_12 rfl (lv_at hl 1 rfl) ?_
        refine lv_aload_n hx hb dX0_deepest_13 rfl (lv_at hl 0 rfl) ?_
        refine lv_iload_n hx hb dX0_deepest_14 rfl (lv_at hl 2 rfl) ?_
        refine c_Vi (As := [.int (nI (i))]) (rest := [.int (nI (bmx E i))]) (ci := 0) (q0 := 0) S (c_X0_depthAt_in l dC dI cI cJ cZ q0 q1 q2 q3 w o d n V O E hD i (by omega)) (cwV 1 hts gX0_deepest_X0_depthAt rfl rfl rfl (by decide +kernel) ⟨Nat.le_of_ble_eq_true rfl, Nat.le_of_ble_eq_true rfl⟩) hK hP rfl rfl rfl hl.1 rfl (Nat.le_of_ble_eq_true rfl) dX0_deepest_15 ⟨Nat.le_of_ble_eq_true rfl, Nat.le_of_ble_eq_true rfl⟩ ?_
        refine va_mmax hx hb (hml.trans hl.1.symm) hown (hts (.methodLink RX0 74 Lib.Math.max.name) (by decide +kernel)) (hts (.static Lib.Math.max.name) (by decide +kernel)) (hts (.initialized "java/lang/Math") (by decide +kernel)) (hts (.code Lib.Math.max.name Lib.Math.max.code 2 (some .int)) (by decide +kernel)) (Nat.le_of_ble_eq_true rfl) (Nat.le_of_ble_eq_true rfl) (Nat.le_of_ble_eq_true rfl) (Nat.le_of_ble_eq_true rfl) dX0_deepest_18 ?_
        refine tpi (nmax (Nat.lt_of_le_of_lt (bmx_le (c := 8) (fun k h => (hk k (by omega)).2.2.2.2.2.2)) (by decide)) (Nat.lt_of_le_of_lt (hk _ (by omega)).2.2.2.2.2.2 (by decide))) ?_
        refine lv_istore_n (lv' := [(1, .int (nI (max (bmx E i) (E i)))), (0, .ref (q0)), (2, .int (nI (i)))]) hx hb dX0_deepest_21 rfl hl (by decide) rfl (fun ls hl => ?_)
        refine lv_iinc (v := nI (i + 1)) (lv' := [(2, .int (nI (i + 1))), (1, .int (nI (max (bmx E i) (E i)))), (0, .ref (q0))]) hx hb dX0_deepest_22 hl (k := 2) rfl (inc1 _) (by decide) rfl (fun ls hl => ?_)
        refine lv_goto (tgt := 4) hx hb dX0_deepest_25 (by decide) ?_
        exact ih_4 (i + 1) (by omega) (by omega) ls (lv_sub hl [2, 1, 0] rfl)
  exact lp_4 _ (0) (by omega) (Nat.lt_succ_self _) ls (lv_sub hl [2, 1, 0] rfl)
abbrev rm_X0_lettersKept : Room := { frames := 4, cells := 0, slots := 0, locals := 85 }
set_option maxHeartbeats 4000000 in
set_option maxRecDepth 100000 in
theorem c_X0_lettersKept (l : Launch) (dC : Nat → ClassId) (dI : Nat → Nat → Nat) (cI cJ cZ : ClassId) (q0 q1 q2 q3 : Nat) (w : Nat → Int64) (o d : Nat → Int32) (n : Nat) (V O E : Nat → Nat) (hD : bDD w o d n V O E) : Met l yX0_lettersKept wsX0_lettersKept rm_X0_lettersKept (rPc (dC, dI) (tysA cI cJ cZ) (wd q0 q1 q2 q3 cI cJ w o d n) [.ref (q0)]) (Ri (nI (fb_sm (fun k => if bct V E k then bln (V k) - E k else 0) n))) 0 0 (fun _ => False) := by
  refine met_r (cc := cX0_lettersKept) (maxL := 3) (ret := (some .int)) (own := RX0) (by decide) rfl rfl (Nat.le_of_ble_eq_true rfl) ?_
  intro p e s m below meth c S hr hlocks hP hK ls hl
  obtain ⟨hx, hb, hml, hown, hts⟩ := id S
  have hl : lv_has ls 3 [(0, .ref (q0))] := hl
  have hi0 : ∀ w ∈ wsX00, w ∈ wsX0_lettersKept := fun _ h => List.mem_cons_of_mem _ (List.mem_append_right _ h)
  obtain ⟨hn, hk⟩ := id hD
  refine lv_iconst (v := nI (0)) hx hb dX0_lettersKept_0 (by decide) ?_
  refine lv_istore_n (lv' := [(1, .int (nI (0))), (0, .ref (q0))]) hx hb dX0_lettersKept_1 rfl hl (by decide) rfl (fun ls hl => ?_)
  refine lv_iconst (v := nI (0)) hx hb dX0_lettersKept_2 (by decide) ?_
  refine lv_istore_n (lv' := [(2, .int (nI (0))), (1, .int (nI (0))), (0, .ref (q0))]) hx hb dX0_lettersKept_3 rfl hl (by decide) rfl (fun ls hl => ?_)
  have lp_4 : ∀ (j_4 : Nat) (i : Nat), (i ≤ n) → (n - i) < j_4 → ∀ ls : Array Slot, lv_has ls 3 [(0, .ref (q0)), (1, .int (nI (fb_sm (fun k => if bct V E k then bln (V k) - E k else 0) i))), (2, .int (nI (i)))] → W p l e rm_X0_lettersKept s m ([.ref (q0)] : List Value).toArray below meth c s.heap [] 0 0 (MQ below (Ri (nI (fb_sm (fun k => if bct V E k then bln (V k) - E k else 0) n))) ([.ref (q0)] : List Value).toArray s 0 0 (fun _ => False)) (F0 m 4 ls []) := by
    intro j_4
    induction j_4 with
    | zero => intro i _ h0; exact absurd h0 (Nat.not_lt_zero _)
    | succ j_4 ih_4 =>
      intro i hi hf_4 ls hl
      refine lv_iload_n hx hb dX0_lettersKept_4 rfl (lv_at hl 2 rfl) ?_
      refine lv_aload_n hx hb dX0_lettersKept_5 rfl (lv_at hl 0 rfl) ?_
      refine va_get (D := (dC, dI)) (ci := 0) (v := .int (nI (n))) (C := RX0) (T := TX0) (N := 4) hx hb hts hi0 hown hK hP 0 rfl rfl 3 (by decide) (hts (.fieldLink RX0 22 "BurstWords$Dictionary" "size" "I") (by decide +kernel)) (fun _ h9 => h9) rfl dX0_lettersKept_6 ?_
      refine n_ge (tgt := 43) hx hb dX0_lettersKept_9 (by decide) (by omega) (by omega) (fun c_9 => ?_) (fun c_9 => ?_)
      · refine lv_iload_n hx hb dX0_lettersKept_43 rfl (lv_at hl 1 rfl) ?_
        exact r_i hx hb hr hlocks (by rw [show i = n by omega]) dX0_lettersKept_44
      · refine lv_aload_n hx hb dX0_lettersKept_12 rfl (lv_at hl 0 rfl) ?_
        refine lv_iload_n hx hb dX0_lettersKept_13 rfl (lv_at hl 2 rfl) ?_
        refine c_Vi (As := [.int (nI (i))]) (rest := []) (ci := 0) (q0 := 0) S (c_X0_isContained l dC dI cI cJ cZ q0 q1 q2 q3 w o d n V O E hD i (by omega)) (cwV 1 hts gX0_lettersKept_X0_isContained rfl rfl rfl (by decide +kernel) ⟨Nat.le_of_ble_eq_true rfl, Nat.le_of_ble_eq_true rfl⟩) hK hP rfl rfl rfl hl.1 rfl (Nat.le_of_ble_eq_true rfl) dX0_lettersKept_14 ⟨Nat.le_of_ble_eq_true rfl, Nat.le_of_ble_eq_true rfl⟩ ?_
        refine b_eq (tgt := 37) hx hb dX0_lettersKept_17 (by decide) (fun c_17 => ?_) (fun c_17 => ?_)
        · refine lv_iinc (v := nI (i + 1)) (lv' := [(2, .int (nI (i + 1))), (0, .ref (q0)), (1, .int (nI (fb_sm (fun k => if bct V E k then bln (V k) - E k else 0) i)))]) hx hb dX0_lettersKept_37 hl (k := 2) rfl (inc1 _) (by decide) rfl (fun ls hl => ?_)
          refine lv_goto (tgt := 4) hx hb dX0_lettersKept_40 (by decide) ?_
          exact ih_4 (i + 1) (by omega) (by omega) ls (lv_cg (l := [(0, .ref (q0)), (1, .int (nI (fb_sm (fun k => if bct V E k then bln (V k) - E k else 0) i))), (2, .int (nI (i + 1)))]) (lv_sub hl [1, 2, 0] rfl) (by rw [fb_sm_succ, if_neg (by simp [c_17])]; rfl))
        · refine lv_iload_n hx hb dX0_lettersKept_20 rfl (lv_at hl 1 rfl) ?_
          refine lv_aload_n hx hb dX0_lettersKept_21 rfl (lv_at hl 0 rfl) ?_
          refine lv_iload_n hx hb dX0_lettersKept_22 rfl (lv_at hl 2 rfl) ?_
          refine c_Vl (As := [.int (nI (i))]) (rest := [.int (nI (fb_sm (fun k => if bct V E k then bln (V k) - E k else 0) i))]) (ci := 0) (q0 := 0) S (c_X0_wordAt_in l dC dI cI cJ cZ q0 q1 q2 q3 w o d n V O E hD i (by omega)) (cwV 1 hts gX0_lettersKept_X0_wordAt rfl rfl rfl (by decide +kernel) ⟨Nat.le_of_ble_eq_true rfl, Nat.le_of_ble_eq_true rfl⟩) hK hP rfl rfl rfl hl.1 rfl (Nat.le_of_ble_eq_true rfl) dX0_lettersKept_23 ⟨Nat.le_of_ble_eq_true rfl, Nat.le_of_ble_eq_true rfl⟩ ?_
          refine c_Si (As := [.long (lN (be8 (V i)))]) (rest := [.int (nI (fb_sm (fun k => if bct V E k then bln (V k) - E k else 0) i))]) S (c_X3_lengthOf l (V i)) (va_cwS 1 hts gX0_lettersKept_X3_lengthOf rfl rfl rfl (by decide +kernel) ⟨Nat.le_of_ble_eq_true rfl, Nat.le_of_ble_eq_true rfl⟩) rfl hl.1 rfl (Nat.le_of_ble_eq_true rfl) dX0_lettersKept_26 ⟨Nat.le_of_ble_eq_true rfl, Nat.le_of_ble_eq_true rfl⟩ ?_
          refine lv_aload_n hx hb dX0_lettersKept_29 rfl (lv_at hl 0 rfl) ?_
          refine lv_iload_n hx hb dX0_lettersKept_30 rfl (lv_at hl 2 rfl) ?_
          refine c_Vi (As := [.int (nI (i))]) (rest := [.int (nI (bln (V i))), .int (nI (fb_sm (fun k => if bct V E k then bln (V k) - E k else 0) i))]) (ci := 0) (q0 := 0) S (c_X0_depthAt_in l dC dI cI cJ cZ q0 q1 q2 q3 w o d n V O E hD i (by omega)) (cwV 1 hts gX0_lettersKept_X0_depthAt rfl rfl rfl (by decide +kernel) ⟨Nat.le_of_ble_eq_true rfl, Nat.le_of_ble_eq_true rfl⟩) hK hP rfl rfl rfl hl.1 rfl (Nat.le_of_ble_eq_true rfl) dX0_lettersKept_31 ⟨Nat.le_of_ble_eq_true rfl, Nat.le_of_ble_eq_true rfl⟩ ?_
          refine lv_isub hx hb dX0_lettersKept_34 ?_
          refine tpi (pk_sub (by simpa [bct] using c_17)) ?_
          refine lv_iadd hx hb dX0_lettersKept_35 ?_
          refine tpi (nI_add _ _) ?_
          refine lv_istore_n (lv' := [(1, .int (nI ((fb_sm (fun k => if bct V E k then bln (V k) - E k else 0) i) + ((bln (V i)) - (E i))))), (0, .ref (q0)), (2, .int (nI (i)))]) hx hb dX0_lettersKept_36 rfl hl (by decide) rfl (fun ls hl => ?_)
          refine lv_iinc (v := nI (i + 1)) (lv' := [(2, .int (nI (i + 1))), (1, .int (nI ((fb_sm (fun k => if bct V E k then bln (V k) - E k else 0) i) + ((bln (V i)) - (E i))))), (0, .ref (q0))]) hx hb dX0_lettersKept_37 hl (k := 2) rfl (inc1 _) (by decide) rfl (fun ls hl => ?_)
          refine lv_goto (tgt := 4) hx hb dX0_lettersKept_40 (by decide) ?_
          exact ih_4 (i + 1) (by omega) (by omega) ls (lv_cg (l := [(0, .ref (q0)), (1, .int (nI ((fb_sm (fun k => if bct V E k then bln (V k) - E k else 0) i) + ((bln (V i)) - (E i))))), (2, .int (nI (i + 1)))]) (lv_sub hl [2, 1, 0] rfl) (by rw [fb_sm_succ, if_pos c_17]))
  exact lp_4 _ (0) (by omega) (Nat.lt_succ_self _) ls (lv_sub hl [2, 1, 0] rfl)
abbrev rm_X0_mostShared : Room := { frames := 4, cells := 0, slots := 0, locals := 87 }
set_option maxHeartbeats 4000000 in
set_option maxRecDepth 100000 in
theorem c_X0_mostShared (l : Launch) (dC : Nat → ClassId) (dI : Nat → Nat → Nat) (cI cJ cZ : ClassId) (q0 q1 q2 q3 : Nat) (w : Nat → Int64) (o d : Nat → Int32) (n : Nat) (V O E : Nat → Nat) (hD : bDD w o d n V O E) : Met l yX0_mostShared wsX0_mostShared rm_X0_mostShared (rPc (dC, dI) (tysA cI cJ cZ) (wd q0 q1 q2 q3 cI cJ w o d n) [.ref (q0)]) (Ri (nI (bmx (fun k => bsh (V k) (V (k + 1))) (n - 1)))) 0 0 (fun _ => False) := by
  refine met_r (cc := cX0_mostShared) (maxL := 3) (ret := (some .int)) (own := RX0) (by decide) rfl rfl (Nat.le_of_ble_eq_true rfl) ?_
  intro p e s m below meth c S hr hlocks hP hK ls hl
  obtain ⟨hx, hb, hml, hown, hts⟩ := id S
  have hl : lv_has ls 3 [(0, .ref (q0))] := hl
  have hi0 : ∀ w ∈ wsX00, w ∈ wsX0_mostShared := fun _ h => List.mem_cons_of_mem _ (List.mem_append_right _ h)
  obtain ⟨hn, hk⟩ := id hD
  refine lv_iconst (v := nI (0)) hx hb dX0_mostShared_0 (by decide) ?_
  refine lv_istore_n (lv' := [(1, .int (nI (0))), (0, .ref (q0))]) hx hb dX0_mostShared_1 rfl hl (by decide) rfl (fun ls hl => ?_)
  refine lv_iconst (v := nI (1)) hx hb dX0_mostShared_2 (by decide) ?_
  refine lv_istore_n (lv' := [(2, .int (nI (1))), (1, .int (nI (0))), (0, .ref (q0))]) hx hb dX0_mostShared_3 rfl hl (by decide) rfl (fun ls hl => ?_)
  have lp_4 : ∀ (j_4 : Nat) (i : Nat), (i ≤ n - 1) → (n - i) < j_4 → ∀ ls : Array Slot, lv_has ls 3 [(0, .ref (q0)), (1, .int (nI (bmx (fun k => bsh (V k) (V (k + 1))) i))), (2, .int (nI (i + 1)))] → W p l e rm_X0_mostShared s m ([.ref (q0)] : List Value).toArray below meth c s.heap [] 0 0 (MQ below (Ri (nI (bmx (fun k => bsh (V k) (V (k + 1))) (n - 1)))) ([.ref (q0)] : List Value).toArray s 0 0 (fun _ => False)) (F0 m 4 ls []) := by
    intro j_4
    induction j_4 with
    | zero => intro i _ h0; exact absurd h0 (Nat.not_lt_zero _)
    | succ j_4 ih_4 =>
      intro i hi hf_4 ls hl
      refine lv_iload_n hx hb dX0_mostShared_4 rfl (lv_at hl 2 rfl) ?_
      refine lv_aload_n hx hb dX0_mostShared_5 rfl (lv_at hl 0 rfl) ?_
      refine va_get (D := (dC, dI)) (ci := 0) (v := .int (nI (n))) (C := RX0) (T := TX0) (N := 4) hx hb hts hi0 hown hK hP 0 rfl rfl 3 (by decide) (hts (.fieldLink RX0 22 "BurstWords$Dictionary" "size" "I") (by decide +kernel)) (fun _ h9 => h9) rfl dX0_mostShared_6 ?_
      refine n_ge (tgt := 28) hx hb dX0_mostShared_9 (by decide) (by omega) (by omega) (fun c_9 => ?_) (fun c_9 => ?_)
      · refine lv_iload_n hx hb dX0_mostShared_28 rfl (lv_at hl 1 rfl) ?_
        exact r_i hx hb hr hlocks (by rw [show i = n - 1 by omega]) dX0_mostShared_29
      · refine lv_iload_n hx hb dX0_mostShared_12 rfl (lv_at hl 1 rfl) ?_
        refine lv_aload_n hx hb dX0_mostShared_13 rfl (lv_at hl 0 rfl) ?_
        refine lv_iload_n hx hb dX0_mostShared_14 rfl (lv_at hl 2 rfl) ?_
        refine c_Vi (As := [.int (nI (i + 1))]) (rest := [.int (nI (bmx (fun k => bsh (V k) (V (k + 1))) i))]) (ci := 0) (q0 := 0) S (c_X0_sharedAhead_1 l dC dI cI cJ cZ q0 q1 q2 q3 w o d n V O E hD (i + 1) (by omega) (by omega)) (cwV 1 hts gX0_mostShared_X0_sharedAhead rfl rfl rfl (by decide +kernel) ⟨Nat.le_of_ble_eq_true rfl, Nat.le_of_ble_eq_true rfl⟩) hK hP rfl rfl rfl hl.1 rfl (Nat.le_of_ble_eq_true rfl) dX0_mostShared_15 ⟨Nat.le_of_ble_eq_true rfl, Nat.le_of_ble_eq_true rfl⟩ ?_
        refine va_mmax hx hb (hml.trans hl.1.symm) hown (hts (.methodLink RX0 74 Lib.Math.max.name) (by decide +kernel)) (hts (.static Lib.Math.max.name) (by decide +kernel)) (hts (.initialized "java/lang/Math") (by decide +kernel)) (hts (.code Lib.Math.max.name Lib.Math.max.code 2 (some .int)) (by decide +kernel)) (Nat.le_of_ble_eq_true rfl) (Nat.le_of_ble_eq_true rfl) (Nat.le_of_ble_eq_true rfl) (Nat.le_of_ble_eq_true rfl) dX0_mostShared_18 ?_
        refine tpi (nmax (Nat.lt_of_le_of_lt (bmx_le (c := 7) (fun k _ => bsh_le _ _)) (by decide)) (Nat.lt_of_le_of_lt (bsh_le _ _) (by decide))) ?_
        refine lv_istore_n (lv' := [(1, .int (nI (max (bmx (fun k => bsh (V k) (V (k + 1))) i) (bsh (V ((i + 1) - 1)) (V (i + 1)))))), (0, .ref (q0)), (2, .int (nI (i + 1)))]) hx hb dX0_mostShared_21 rfl hl (by decide) rfl (fun ls hl => ?_)
        refine lv_iinc (v := nI ((i + 1) + 1)) (lv' := [(2, .int (nI ((i + 1) + 1))), (1, .int (nI (max (bmx (fun k => bsh (V k) (V (k + 1))) i) (bsh (V ((i + 1) - 1)) (V (i + 1)))))), (0, .ref (q0))]) hx hb dX0_mostShared_22 hl (k := 2) rfl (inc1 _) (by decide) rfl (fun ls hl => ?_)
        refine lv_goto (tgt := 4) hx hb dX0_mostShared_25 (by decide) ?_
        exact ih_4 (i + 1) (by omega) (by omega) ls (lv_sub hl [2, 1, 0] rfl)
  exact lp_4 _ (0) (by omega) (Nat.lt_succ_self _) ls (lv_sub hl [2, 1, 0] rfl)
abbrev rm_X0_pairsSharing : Room := { frames := 4, cells := 0, slots := 0, locals := 87 }
set_option maxHeartbeats 4000000 in
set_option maxRecDepth 100000 in
theorem c_X0_pairsSharing (l : Launch) (dC : Nat → ClassId) (dI : Nat → Nat → Nat) (cI cJ cZ : ClassId) (q0 q1 q2 q3 : Nat) (w : Nat → Int64) (o d : Nat → Int32) (n : Nat) (V O E : Nat → Nat) (hD : bDD w o d n V O E) (g : Nat) (hg : g ≤ 7) : Met l yX0_pairsSharing wsX0_pairsSharing rm_X0_pairsSharing (rPc (dC, dI) (tysA cI cJ cZ) (wd q0 q1 q2 q3 cI cJ w o d n) [.ref (q0), .int (nI (g))]) (Ri (nI (fb_ct (fun k => bsh (V k) (V (k + 1)) == g) (n - 1)))) 0 0 (fun _ => False) := by
  refine met_r (cc := cX0_pairsSharing) (maxL := 4) (ret := (some .int)) (own := RX0) (by decide) rfl rfl (Nat.le_of_ble_eq_true rfl) ?_
  intro p e s m below meth c S hr hlocks hP hK ls hl
  obtain ⟨hx, hb, hml, hown, hts⟩ := id S
  have hl : lv_has ls 4 [(0, .ref (q0)), (1, .int (nI (g)))] := hl
  have hi0 : ∀ w ∈ wsX00, w ∈ wsX0_pairsSharing := fun _ h => List.mem_cons_of_mem _ (List.mem_append_right _ h)
  obtain ⟨hn, hk⟩ := id hD
  refine lv_iconst (v := nI (0)) hx hb dX0_pairsSharing_0 (by decide) ?_
  refine lv_istore_n (lv' := [(2, .int (nI (0))), (0, .ref (q0)), (1, .int (nI (g)))]) hx hb dX0_pairsSharing_1 rfl hl (by decide) rfl (fun ls hl => ?_)
  refine lv_iconst (v := nI (1)) hx hb dX0_pairsSharing_2 (by decide) ?_
  refine lv_istore_n (lv' := [(3, .int (nI (1))), (2, .int (nI (0))), (0, .ref (q0)), (1, .int (nI (g)))]) hx hb dX0_pairsSharing_3 rfl hl (by decide) rfl (fun ls hl => ?_)
  have lp_4 : ∀ (j_4 : Nat) (i : Nat), (i ≤ n - 1) → (n - i) < j_4 → ∀ ls : Array Slot, lv_has ls 4 [(0, .ref (q0)), (1, .int (nI (g))), (2, .int (nI (fb_ct (fun k => bsh (V k) (V (k + 1)) == g) i))), (3, .int (nI (i + 1)))] → W p l e rm_X0_pairsSharing s m ([.ref (q0), .int (nI (g))] : List Value).toArray below meth c s.heap [] 0 0 (MQ below (Ri (nI (fb_ct (fun k => bsh (V k) (V (k + 1)) == g) (n - 1)))) ([.ref (q0), .int (nI (g))] : List Value).toArray s 0 0 (fun _ => False)) (F0 m 4 ls []) := by
    intro j_4
    induction j_4 with
    | zero => intro i _ h0; exact absurd h0 (Nat.not_lt_zero _)
    | succ j_4 ih_4 =>
      intro i hi hf_4 ls hl
      refine lv_iload_n hx hb dX0_pairsSharing_4 rfl (lv_at hl 3 rfl) ?_
      refine lv_aload_n hx hb dX0_pairsSharing_5 rfl (lv_at hl 0 rfl) ?_
      refine va_get (D := (dC, dI)) (ci := 0) (v := .int (nI (n))) (C := RX0) (T := TX0) (N := 4) hx hb hts hi0 hown hK hP 0 rfl rfl 3 (by decide) (hts (.fieldLink RX0 22 "BurstWords$Dictionary" "size" "I") (by decide +kernel)) (fun _ h9 => h9) rfl dX0_pairsSharing_6 ?_
      refine n_ge (tgt := 30) hx hb dX0_pairsSharing_9 (by decide) (by omega) (by omega) (fun c_9 => ?_) (fun c_9 => ?_)
      · refine lv_iload_n hx hb dX0_pairsSharing_30 rfl (lv_at hl 2 rfl) ?_
        exact r_i hx hb hr hlocks (by rw [show i = n - 1 by omega]) dX0_pairsSharing_31
      · refine lv_aload_n hx hb dX0_pairsSharing_12 rfl (lv_at hl 0 rfl) ?_
        refine lv_iload_n hx hb dX0_pairsSharing_13 rfl (lv_at hl 3 rfl) ?_
        refine c_Vi (As := [.int (nI (i + 1))]) (rest := []) (ci := 0) (q0 := 0) S (c_X0_sharedAhead_1 l dC dI cI cJ cZ q0 q1 q2 q3 w o d n V O E hD (i + 1) (by omega) (by omega)) (cwV 1 hts gX0_pairsSharing_X0_sharedAhead rfl rfl rfl (by decide +kernel) ⟨Nat.le_of_ble_eq_true rfl, Nat.le_of_ble_eq_true rfl⟩) hK hP rfl rfl rfl hl.1 rfl (Nat.le_of_ble_eq_true rfl) dX0_pairsSharing_14 ⟨Nat.le_of_ble_eq_true rfl, Nat.le_of_ble_eq_true rfl⟩ ?_
        refine lv_iload_n hx hb dX0_pairsSharing_17 rfl (lv_at hl 1 rfl) ?_
        refine n_ne (tgt := 24) hx hb dX0_pairsSharing_18 (by decide) (Nat.lt_of_le_of_lt (bsh_le _ _) (by decide)) (by omega) (fun c_18 => ?_) (fun c_18 => ?_)
        · refine lv_iinc (v := nI ((i + 1) + 1)) (lv' := [(3, .int (nI ((i + 1) + 1))), (0, .ref (q0)), (1, .int (nI (g))), (2, .int (nI (fb_ct (fun k => bsh (V k) (V (k + 1)) == g) i)))]) hx hb dX0_pairsSharing_24 hl (k := 3) rfl (inc1 _) (by decide) rfl (fun ls hl => ?_)
          refine lv_goto (tgt := 4) hx hb dX0_pairsSharing_27 (by decide) ?_
          exact ih_4 (i + 1) (by omega) (by omega) ls (lv_cg (l := [(0, .ref (q0)), (1, .int (nI (g))), (2, .int (nI (fb_ct (fun k => bsh (V k) (V (k + 1)) == g) i))), (3, .int (nI ((i + 1) + 1)))]) (lv_sub hl [1, 2, 3, 0] rfl) (by rw [ct_n (p := (fun k => bsh (V k) (V (k + 1)) == g)) (n := i) (by simpa using c_18)]))
        · refine lv_iinc (v := nI ((fb_ct (fun k => bsh (V k) (V (k + 1)) == g) i) + 1)) (lv' := [(2, .int (nI ((fb_ct (fun k => bsh (V k) (V (k + 1)) == g) i) + 1))), (0, .ref (q0)), (1, .int (nI (g))), (3, .int (nI (i + 1)))]) hx hb dX0_pairsSharing_21 hl (k := 2) rfl (inc1 _) (by decide) rfl (fun ls hl => ?_)
          refine lv_iinc (v := nI ((i + 1) + 1)) (lv' := [(3, .int (nI ((i + 1) + 1))), (2, .int (nI ((fb_ct (fun k => bsh (V k) (V (k + 1)) == g) i) + 1))), (0, .ref (q0)), (1, .int (nI (g)))]) hx hb dX0_pairsSharing_24 hl (k := 3) rfl (inc1 _) (by decide) rfl (fun ls hl => ?_)
          refine lv_goto (tgt := 4) hx hb dX0_pairsSharing_27 (by decide) ?_
          exact ih_4 (i + 1) (by omega) (by omega) ls (lv_cg (l := [(0, .ref (q0)), (1, .int (nI (g))), (2, .int (nI ((fb_ct (fun k => bsh (V k) (V (k + 1)) == g) i) + 1))), (3, .int (nI ((i + 1) + 1)))]) (lv_sub hl [2, 3, 1, 0] rfl) (by rw [ct_y (p := (fun k => bsh (V k) (V (k + 1)) == g)) (n := i) (by simpa using c_18)]))
  exact lp_4 _ (0) (by omega) (Nat.lt_succ_self _) ls (lv_sub hl [2, 3, 1, 0] rfl)
end
