abbrev Rc : Type := MethodName × ByteArray × Option FieldType × Nat × Nat × Nat × Nat × Nat × Nat
def recs : List Rc := [(⟨"java/lang/Intege\x72", "bitCount", "(I)I"⟩, prog_10_method_49_code, (Option.some FieldType.int), 1, 1, 359, 9, 358, 0),
  (⟨"java/lang/Math", "max", "(II)I"⟩, prog_11_method_65_code, (Option.some FieldType.int), 2, 1, 375, 10, 374, 0),
  (⟨"java/lang/Math", "max", "(JJ)J"⟩, prog_11_method_66_code, (Option.some FieldType.long), 2, 1, 630, 10, 629, 0),
  (⟨"java/lang/Math", "min", "(II)I"⟩, prog_11_method_69_code, (Option.some FieldType.int), 2, 1, 372, 10, 371, 0),
  (⟨"CorkageOnRemarks$Kinds", "minutesFo\x72", "(II)I"⟩, prog_3_method_2_code, (Option.some FieldType.int), 2, 1, 298, 8, 297, 0),
  (⟨"CorkageOnRemarks$Kinds", "moreMood", "(II)I"⟩, prog_3_method_3_code, (Option.some FieldType.int), 2, 1, 365, 8, 364, 0),
  (⟨"CorkageOnRemarks$Kinds", "lessMood", "(II)I"⟩, prog_3_method_4_code, (Option.some FieldType.int), 2, 1, 378, 8, 377, 0),
  (⟨"CorkageOnRemarks$Kinds", "price", "(III)I"⟩, prog_3_method_5_code, (Option.some FieldType.int), 3, 1, 305, 8, 304, 0),
  (⟨"CorkageOnRemarks$Table", "copyFrom", "(LCorkageOnRemarks$Table;)V"⟩, prog_6_method_2_code, (Option.none : Option FieldType), 1, 0, 235, 2, 233, 234),
  (⟨"CorkageOnRemarks$Table", "hasGuest", "(I)Z"⟩, prog_6_method_3_code, (Option.some FieldType.boolean), 1, 0, 255, 2, 253, 254),
  (⟨"CorkageOnRemarks$Table", "hasTwo", "(II)Z"⟩, prog_6_method_4_code, (Option.some FieldType.boolean), 2, 0, 271, 2, 269, 270),
  (⟨"CorkageOnRemarks$Table", "hasRemark", "(I)Z"⟩, prog_6_method_5_code, (Option.some FieldType.boolean), 1, 0, 290, 2, 288, 289),
  (⟨"CorkageOnRemarks$Table", "seat", "(II)Z"⟩, prog_6_method_6_code, (Option.some FieldType.boolean), 2, 0, 247, 2, 245, 246),
  (⟨"CorkageOnRemarks$Table", "bring", "(IIIII)Z"⟩, prog_6_method_7_code, (Option.some FieldType.boolean), 5, 0, 251, 2, 249, 250),
  (⟨"CorkageOnRemarks$Table", "hire", "(I)Z"⟩, prog_6_method_8_code, (Option.some FieldType.boolean), 1, 0, 259, 2, 257, 258),
  (⟨"CorkageOnRemarks$Table", "charge", "(I)Z"⟩, prog_6_method_9_code, (Option.some FieldType.boolean), 1, 0, 263, 2, 261, 262),
  (⟨"CorkageOnRemarks$Table", "humou\x72", "(II)Z"⟩, prog_6_method_10_code, (Option.some FieldType.boolean), 2, 0, 275, 2, 273, 274),
  (⟨"CorkageOnRemarks$Table", "changeSeats", "(II)Z"⟩, prog_6_method_11_code, (Option.some FieldType.boolean), 2, 0, 267, 2, 265, 266),
  (⟨"CorkageOnRemarks$Table", "minutesFo\x72", "(I)I"⟩, prog_6_method_12_code, (Option.some FieldType.int), 1, 0, 294, 2, 292, 293),
  (⟨"CorkageOnRemarks$Table", "priceOf", "(I)I"⟩, prog_6_method_13_code, (Option.some FieldType.int), 1, 0, 302, 2, 300, 301),
  (⟨"CorkageOnRemarks$Table", "hearersOf", "(I)I"⟩, prog_6_method_14_code, (Option.some FieldType.int), 1, 0, 309, 2, 307, 308),
  (⟨"CorkageOnRemarks$Table", "likersOf", "(I)I"⟩, prog_6_method_15_code, (Option.some FieldType.int), 1, 0, 356, 2, 354, 355),
  (⟨"CorkageOnRemarks$Table", "moodsTogethe\x72", "()I"⟩, prog_6_method_16_code, (Option.some FieldType.int), 0, 0, 673, 2, 671, 672),
  (⟨"CorkageOnRemarks$Table", "allPrices", "()I"⟩, prog_6_method_17_code, (Option.some FieldType.int), 0, 0, 677, 2, 675, 676),
  (⟨"CorkageOnRemarks$Table", "mostLikers", "()I"⟩, prog_6_method_18_code, (Option.some FieldType.int), 0, 0, 495, 2, 493, 494),
  (⟨"CorkageOnRemarks$Table", "topicsLikedBy", "(I)I"⟩, prog_6_method_19_code, (Option.some FieldType.int), 1, 0, 502, 2, 500, 501),
  (⟨"CorkageOnRemarks$Table", "dearest", "()I"⟩, prog_6_method_20_code, (Option.some FieldType.int), 0, 0, 510, 2, 508, 509),
  (⟨"CorkageOnRemarks$Table", "broughtBy", "(I)I"⟩, prog_6_method_21_code, (Option.some FieldType.int), 1, 0, 583, 2, 581, 582),
  (⟨"CorkageOnRemarks$Evening", "run", "(I)V"⟩, prog_2_method_2_code, (Option.none : Option FieldType), 1, 0, 338, 5, 336, 337),
  (⟨"CorkageOnRemarks$Evening", "begin", "(I)V"⟩, prog_2_method_3_code, (Option.none : Option FieldType), 1, 0, 342, 5, 340, 341),
  (⟨"CorkageOnRemarks$Evening", "pass", "(I)V"⟩, prog_2_method_4_code, (Option.none : Option FieldType), 1, 0, 346, 5, 344, 345),
  (⟨"CorkageOnRemarks$Evening", "open", "(II)V"⟩, prog_2_method_5_code, (Option.none : Option FieldType), 2, 2, 350, 5, 349, 5),
  (⟨"CorkageOnRemarks$Evening", "changeMoods", "(II)V"⟩, prog_2_method_6_code, (Option.none : Option FieldType), 2, 2, 369, 5, 368, 6),
  (⟨"CorkageOnRemarks$Evening", "takeWhatIsReady", "(I)V"⟩, prog_2_method_7_code, (Option.none : Option FieldType), 1, 2, 382, 5, 381, 7),
  (⟨"CorkageOnRemarks$Evening", "nextToTake", "(I)I"⟩, prog_2_method_8_code, (Option.some FieldType.int), 1, 2, 390, 5, 389, 9),
  (⟨"CorkageOnRemarks$Evening", "busyAt", "(I)I"⟩, prog_2_method_9_code, (Option.some FieldType.int), 1, 2, 386, 5, 385, 8),
  (⟨"CorkageOnRemarks$Evening", "minutesWithBusy", "(I)I"⟩, prog_2_method_10_code, (Option.some FieldType.int), 1, 0, 554, 5, 552, 553),
  (⟨"CorkageOnRemarks$Evening", "moodsTogethe\x72", "()I"⟩, prog_2_method_11_code, (Option.some FieldType.int), 0, 0, 395, 5, 393, 394),
  (⟨"CorkageOnRemarks$Evening", "billOf", "(I)I"⟩, prog_2_method_12_code, (Option.some FieldType.int), 1, 0, 403, 5, 401, 402),
  (⟨"CorkageOnRemarks$Evening", "wholeBill", "()I"⟩, prog_2_method_13_code, (Option.some FieldType.int), 0, 0, 399, 5, 397, 398),
  (⟨"CorkageOnRemarks$Evening", "openedBy", "(I)I"⟩, prog_2_method_14_code, (Option.some FieldType.int), 1, 0, 408, 5, 406, 407),
  (⟨"CorkageOnRemarks$Evening", "howManySentBack", "()I"⟩, prog_2_method_15_code, (Option.some FieldType.int), 0, 0, 412, 5, 410, 411),
  (⟨"CorkageOnRemarks$Evening", "lastOpening", "()I"⟩, prog_2_method_16_code, (Option.some FieldType.int), 0, 0, 416, 5, 414, 415),
  (⟨"CorkageOnRemarks$Evening", "isSilent", "(I)Z"⟩, prog_2_method_17_code, (Option.some FieldType.boolean), 1, 2, 542, 5, 541, 11),
  (⟨"CorkageOnRemarks$Evening", "longestSilence", "()I"⟩, prog_2_method_18_code, (Option.some FieldType.int), 0, 0, 538, 5, 536, 537),
  (⟨"CorkageOnRemarks$Evening", "startOfSilence", "(I)I"⟩, prog_2_method_19_code, (Option.some FieldType.int), 1, 0, 546, 5, 544, 545),
  (⟨"CorkageOnRemarks$Letters", "add", "(I)V"⟩, prog_4_method_2_code, (Option.none : Option FieldType), 1, 0, 202, 3, 200, 201),
  (⟨"CorkageOnRemarks$Letters", "at", "(I)I"⟩, prog_4_method_3_code, (Option.some FieldType.int), 1, 0, 222, 3, 220, 221),
  (⟨"CorkageOnRemarks$Letters", "sizeOf", "(I)I"⟩, prog_4_method_4_code, (Option.some FieldType.int), 1, 1, 225, 3, 224, 0),
  (⟨"CorkageOnRemarks$Letters", "kindOf", "(I)I"⟩, prog_4_method_5_code, (Option.some FieldType.int), 1, 1, 231, 3, 230, 0),
  (⟨"CorkageOnRemarks$Letters", "firstStray", "()I"⟩, prog_4_method_6_code, (Option.some FieldType.int), 0, 0, 214, 3, 212, 213),
  (⟨"CorkageOnRemarks$Letters", "strayFrom", "(I)I"⟩, prog_4_method_7_code, (Option.some FieldType.int), 1, 2, 218, 3, 217, 2),
  (⟨"CorkageOnRemarks$Letters", "fits", "(III)Z"⟩, prog_4_method_8_code, (Option.some FieldType.boolean), 3, 1, 228, 3, 227, 0),
  (⟨"CorkageOnRemarks$Letters", "tell", "(LCorkageOnRemarks$Table;I)Z"⟩, prog_4_method_9_code, (Option.some FieldType.boolean), 2, 0, 239, 3, 237, 238),
  (⟨"CorkageOnRemarks$Letters", "numbe\x72", "(II)I"⟩, prog_4_method_10_code, (Option.some FieldType.int), 2, 2, 243, 3, 242, 3),
  (⟨"CorkageOnRemarks$Shares", "fewestPayments", "(ILCorkageOnRemarks$Evening;)I"⟩, prog_5_method_2_code, (Option.some FieldType.int), 2, 0, 596, 6, 594, 595),
  (⟨"CorkageOnRemarks$Shares", "findWhoIsOve\x72", "(ILCorkageOnRemarks$Evening;)V"⟩, prog_5_method_3_code, (Option.none : Option FieldType), 2, 2, 600, 6, 599, 15),
  (⟨"CorkageOnRemarks$Shares", "mostGroups", "(II)I"⟩, prog_5_method_4_code, (Option.some FieldType.int), 2, 2, 606, 6, 605, 16),
  (⟨"CorkageOnRemarks$Trials", "moodsLeaving", "(I)I"⟩, prog_7_method_2_code, (Option.some FieldType.int), 1, 2, 450, 4, 449, 10),
  (⟨"CorkageOnRemarks$Trials", "moodBehind", "(LCorkageOnRemarks$Table;II)I"⟩, prog_7_method_3_code, (Option.some FieldType.int), 3, 0, 428, 4, 426, 427),
  (⟨"CorkageOnRemarks$Trials", "moreWithout", "(LCorkageOnRemarks$Table;I)I"⟩, prog_7_method_4_code, (Option.some FieldType.int), 2, 0, 446, 4, 444, 445),
  (⟨"CorkageOnRemarks$Trials", "minuteOfMostMoods", "(LCorkageOnRemarks$Table;I)I"⟩, prog_7_method_5_code, (Option.some FieldType.int), 2, 0, 460, 4, 458, 459),
  (⟨"CorkageOnRemarks$Trials", "leastWaiters", "(LCorkageOnRemarks$Table;)I"⟩, prog_7_method_6_code, (Option.some FieldType.int), 1, 0, 469, 4, 467, 468),
  (⟨"CorkageOnRemarks$Trials", "seatsOfMostMoods", "(LCorkageOnRemarks$Table;)I"⟩, prog_7_method_7_code, (Option.some FieldType.int), 1, 0, 478, 4, 476, 477),
  (⟨"CorkageOnRemarks$Trials", "bringerOfMostMoods", "(LCorkageOnRemarks$Table;)I"⟩, prog_7_method_8_code, (Option.some FieldType.int), 1, 0, 487, 4, 485, 486),
  (⟨"CorkageOnRemarks$Trials", "leftSoNothingIsSentBack", "(LCorkageOnRemarks$Table;)I"⟩, prog_7_method_9_code, (Option.some FieldType.int), 1, 0, 519, 4, 517, 518),
  (⟨"CorkageOnRemarks$Trials", "leftForMostMoods", "(LCorkageOnRemarks$Table;)I"⟩, prog_7_method_10_code, (Option.some FieldType.int), 1, 0, 530, 4, 528, 529),
  (⟨"CorkageOnRemarks$Trials", "isAsTold", "(I[II)Z"⟩, prog_7_method_11_code, (Option.some FieldType.boolean), 3, 0, 566, 4, 564, 565),
  (⟨"CorkageOnRemarks$Trials", "firstSettledPai\x72", "(LCorkageOnRemarks$Table;II)I"⟩, prog_7_method_12_code, (Option.some FieldType.int), 3, 0, 579, 4, 577, 578),
  (⟨"CorkageOnRemarks$Trials", "worthOf", "(II)I"⟩, prog_7_method_13_code, (Option.some FieldType.int), 2, 2, 587, 4, 586, 14),
  (⟨"CorkageOnRemarks$Trials", "waysToReach", "(LCorkageOnRemarks$Table;II)J"⟩, prog_7_method_14_code, (Option.some FieldType.long), 3, 0, 620, 4, 618, 619),
  (⟨"CorkageOnRemarks$Trials", "byLot", "(LCorkageOnRemarks$Table;III)I"⟩, prog_7_method_15_code, (Option.some FieldType.int), 4, 0, 654, 4, 652, 653),
  (⟨"CorkageOnRemarks", "lette\x72", "(I)I"⟩, prog_1_method_2_code, (Option.some FieldType.int), 1, 0, 194, 1, 192, 193),
  (⟨"CorkageOnRemarks", "table", "()I"⟩, prog_1_method_3_code, (Option.some FieldType.int), 0, 0, 206, 1, 204, 205),
  (⟨"CorkageOnRemarks", "guest", "(II)I"⟩, prog_1_method_4_code, (Option.some FieldType.int), 2, 0, 281, 1, 279, 280),
  (⟨"CorkageOnRemarks", "remark", "(II)I"⟩, prog_1_method_5_code, (Option.some FieldType.int), 2, 0, 286, 1, 284, 285),
  (⟨"CorkageOnRemarks", "ready", "(II)I"⟩, prog_1_method_6_code, (Option.some FieldType.int), 2, 0, 313, 1, 311, 312),
  (⟨"CorkageOnRemarks", "mood", "(II)I"⟩, prog_1_method_7_code, (Option.some FieldType.int), 2, 0, 317, 1, 315, 316),
  (⟨"CorkageOnRemarks", "change", "(II)I"⟩, prog_1_method_8_code, (Option.some FieldType.int), 2, 0, 321, 1, 319, 320),
  (⟨"CorkageOnRemarks", "set", "(II)I"⟩, prog_1_method_9_code, (Option.some FieldType.int), 2, 0, 326, 1, 324, 325),
  (⟨"CorkageOnRemarks", "sums", "(I)I"⟩, prog_1_method_10_code, (Option.some FieldType.int), 1, 0, 330, 1, 328, 329),
  (⟨"CorkageOnRemarks", "of", "(II)I"⟩, prog_1_method_11_code, (Option.some FieldType.int), 2, 0, 420, 1, 418, 419),
  (⟨"CorkageOnRemarks", "moodAt", "(II)I"⟩, prog_1_method_12_code, (Option.some FieldType.int), 2, 0, 424, 1, 422, 423),
  (⟨"CorkageOnRemarks", "bill", "(I)I"⟩, prog_1_method_13_code, (Option.some FieldType.int), 1, 0, 436, 1, 434, 435),
  (⟨"CorkageOnRemarks", "without", "(I)I"⟩, prog_1_method_14_code, (Option.some FieldType.int), 1, 0, 441, 1, 439, 440),
  (⟨"CorkageOnRemarks", "bestMinute", "(I)I"⟩, prog_1_method_15_code, (Option.some FieldType.int), 1, 0, 456, 1, 454, 455),
  (⟨"CorkageOnRemarks", "enough", "()I"⟩, prog_1_method_16_code, (Option.some FieldType.int), 0, 0, 465, 1, 463, 464),
  (⟨"CorkageOnRemarks", "swap", "()I"⟩, prog_1_method_17_code, (Option.some FieldType.int), 0, 0, 474, 1, 472, 473),
  (⟨"CorkageOnRemarks", "fit", "()I"⟩, prog_1_method_18_code, (Option.some FieldType.int), 0, 0, 483, 1, 481, 482),
  (⟨"CorkageOnRemarks", "could", "(I)I"⟩, prog_1_method_19_code, (Option.some FieldType.int), 1, 0, 491, 1, 489, 490),
  (⟨"CorkageOnRemarks", "dea\x72", "()I"⟩, prog_1_method_20_code, (Option.some FieldType.int), 0, 0, 506, 1, 504, 505),
  (⟨"CorkageOnRemarks", "spare", "(I)I"⟩, prog_1_method_21_code, (Option.some FieldType.int), 1, 0, 515, 1, 513, 514),
  (⟨"CorkageOnRemarks", "cold", "()I"⟩, prog_1_method_22_code, (Option.some FieldType.int), 0, 0, 526, 1, 524, 525),
  (⟨"CorkageOnRemarks", "silence", "(I)I"⟩, prog_1_method_23_code, (Option.some FieldType.int), 1, 0, 534, 1, 532, 533),
  (⟨"CorkageOnRemarks", "busy", "(I)I"⟩, prog_1_method_24_code, (Option.some FieldType.int), 1, 0, 550, 1, 548, 549),
  (⟨"CorkageOnRemarks", "who", "(III)I"⟩, prog_1_method_25_code, (Option.some FieldType.int), 3, 0, 558, 1, 556, 557),
  (⟨"CorkageOnRemarks", "haggle", "(II)I"⟩, prog_1_method_26_code, (Option.some FieldType.int), 2, 0, 574, 1, 572, 573),
  (⟨"CorkageOnRemarks", "payments", "()I"⟩, prog_1_method_27_code, (Option.some FieldType.int), 0, 0, 592, 1, 590, 591),
  (⟨"CorkageOnRemarks", "odds", "(III)J"⟩, prog_1_method_28_code, (Option.some FieldType.long), 3, 0, 611, 1, 609, 610),
  (⟨"CorkageOnRemarks", "row", "(I)I"⟩, prog_1_method_29_code, (Option.some FieldType.int), 1, 0, 634, 1, 632, 633),
  (⟨"CorkageOnRemarks", "judge", "()I"⟩, prog_1_method_30_code, (Option.some FieldType.int), 0, 0, 638, 1, 636, 637),
  (⟨"CorkageOnRemarks", "clea\x72", "()I"⟩, prog_1_method_31_code, (Option.some FieldType.int), 0, 0, 646, 1, 644, 645),
  (⟨"CorkageOnRemarks", "lots", "(III)I"⟩, prog_1_method_32_code, (Option.some FieldType.int), 3, 0, 650, 1, 648, 649),
  (⟨"CorkageOnRemarks", "image", "()I"⟩, prog_1_method_33_code, (Option.some FieldType.int), 0, 0, 661, 1, 659, 660),
  (⟨"CorkageOnRemarks", "on", "()I"⟩, prog_1_method_34_code, (Option.some FieldType.int), 0, 0, 665, 1, 663, 664),
  (⟨"CorkageOnRemarks", "count", "(I)I"⟩, prog_1_method_35_code, (Option.some FieldType.int), 1, 0, 669, 1, 667, 668),
  (⟨"CorkageOnRemarks", "refuse", "(I)I"⟩, prog_1_method_36_code, (Option.some FieldType.int), 1, 2, 198, 1, 197, 0),
  (⟨"CorkageOnRemarks", "refuseLong", "(I)J"⟩, prog_1_method_37_code, (Option.some FieldType.long), 1, 2, 615, 1, 614, 17),
  (⟨"CorkageOnRemarks", "eveningNow", "()LCorkageOnRemarks$Evening;"⟩, prog_1_method_38_code, (Option.some (FieldType.object "CorkageOnRemarks$Evening")), 0, 2, 334, 1, 333, 4),
  (⟨"CorkageOnRemarks", "become", "()I"⟩, prog_1_method_39_code, (Option.some FieldType.int), 0, 2, 210, 1, 209, 1),
  (⟨"CorkageOnRemarks", "kindsAsTold", "(II)I"⟩, prog_1_method_40_code, (Option.some FieldType.int), 2, 2, 562, 1, 561, 12),
  (⟨"CorkageOnRemarks", "topicsAsTold", "(II)I"⟩, prog_1_method_41_code, (Option.some FieldType.int), 2, 2, 570, 1, 569, 13),
  (⟨"CorkageOnRemarks", "firstUntrue", "(LCorkageOnRemarks$Evening;)I"⟩, prog_1_method_42_code, (Option.some FieldType.int), 1, 2, 642, 1, 641, 18),
  (⟨"CorkageOnRemarks", "powe\x72", "(JI)J"⟩, prog_1_method_43_code, (Option.some FieldType.long), 2, 1, 623, 1, 622, 0),
  (⟨"CorkageOnRemarks", "greatestDiviso\x72", "(JJ)J"⟩, prog_1_method_44_code, (Option.some FieldType.long), 2, 1, 627, 1, 626, 0),
  (⟨"CorkageOnRemarksModel", "no", "(I)I"⟩, prog_9_method_2_code, (Option.some FieldType.int), 1, 2, 809, 7, 808, 19),
  (⟨"CorkageOnRemarksModel", "lowe\x72", "(I)I"⟩, prog_9_method_3_code, (Option.some FieldType.int), 1, 2, 989, 7, 988, 47),
  (⟨"CorkageOnRemarksModel", "lowest", "(I)J"⟩, prog_9_method_4_code, (Option.some FieldType.long), 1, 2, 1074, 7, 1073, 54),
  (⟨"CorkageOnRemarksModel", "isIn", "(III)Z"⟩, prog_9_method_5_code, (Option.some FieldType.boolean), 3, 1, 832, 7, 831, 0),
  (⟨"CorkageOnRemarksModel", "bound", "(III)I"⟩, prog_9_method_6_code, (Option.some FieldType.int), 3, 1, 805, 7, 804, 0),
  (⟨"CorkageOnRemarksModel", "has", "(II)Z"⟩, prog_9_method_7_code, (Option.some FieldType.boolean), 2, 1, 934, 7, 933, 0),
  (⟨"CorkageOnRemarksModel", "bits", "(I)I"⟩, prog_9_method_8_code, (Option.some FieldType.int), 1, 1, 937, 7, 936, 0),
  (⟨"CorkageOnRemarksModel", "isGuest", "(I)Z"⟩, prog_9_method_9_code, (Option.some FieldType.boolean), 1, 2, 863, 7, 862, 30),
  (⟨"CorkageOnRemarksModel", "areTwo", "(II)Z"⟩, prog_9_method_10_code, (Option.some FieldType.boolean), 2, 2, 867, 7, 866, 31),
  (⟨"CorkageOnRemarksModel", "isRemark", "(I)Z"⟩, prog_9_method_11_code, (Option.some FieldType.boolean), 1, 2, 891, 7, 890, 33),
  (⟨"CorkageOnRemarksModel", "lette\x72", "(I)I"⟩, prog_9_method_12_code, (Option.some FieldType.int), 1, 0, 802, 7, 800, 801),
  (⟨"CorkageOnRemarksModel", "next", "()I"⟩, prog_9_method_13_code, (Option.some FieldType.int), 0, 2, 821, 7, 820, 21),
  (⟨"CorkageOnRemarksModel", "readsDigits", "(II)Z"⟩, prog_9_method_14_code, (Option.some FieldType.boolean), 2, 2, 829, 7, 828, 23),
  (⟨"CorkageOnRemarksModel", "kindOf", "(I)I"⟩, prog_9_method_15_code, (Option.some FieldType.int), 1, 1, 839, 7, 838, 0),
  (⟨"CorkageOnRemarksModel", "readsRemark", "(I)Z"⟩, prog_9_method_16_code, (Option.some FieldType.boolean), 1, 2, 836, 7, 835, 24),
  (⟨"CorkageOnRemarksModel", "readsAll", "(II)Z"⟩, prog_9_method_17_code, (Option.some FieldType.boolean), 2, 2, 825, 7, 824, 22),
  (⟨"CorkageOnRemarksModel", "statement", "()Z"⟩, prog_9_method_18_code, (Option.some FieldType.boolean), 0, 2, 817, 7, 816, 20),
  (⟨"CorkageOnRemarksModel", "comesRemark", "(I)Z"⟩, prog_9_method_19_code, (Option.some FieldType.boolean), 1, 2, 859, 7, 858, 29),
  (⟨"CorkageOnRemarksModel", "comes", "(I)Z"⟩, prog_9_method_20_code, (Option.some FieldType.boolean), 1, 2, 855, 7, 854, 28),
  (⟨"CorkageOnRemarksModel", "table", "()I"⟩, prog_9_method_21_code, (Option.some FieldType.int), 0, 0, 813, 7, 811, 812),
  (⟨"CorkageOnRemarksModel", "passes", "([I)V"⟩, prog_9_method_22_code, (Option.none : Option FieldType), 1, 2, 847, 7, 846, 26),
  (⟨"CorkageOnRemarksModel", "passOne", "(I)I"⟩, prog_9_method_23_code, (Option.some FieldType.int), 1, 2, 851, 7, 850, 27),
  (⟨"CorkageOnRemarksModel", "passesAll", "(IZ)V"⟩, prog_9_method_24_code, (Option.none : Option FieldType), 2, 2, 843, 7, 842, 25),
  (⟨"CorkageOnRemarksModel", "image", "()I"⟩, prog_9_method_25_code, (Option.some FieldType.int), 0, 0, 875, 7, 873, 874),
  (⟨"CorkageOnRemarksModel", "on", "()I"⟩, prog_9_method_26_code, (Option.some FieldType.int), 0, 0, 879, 7, 877, 878),
  (⟨"CorkageOnRemarksModel", "minutesOf", "(I)I"⟩, prog_9_method_27_code, (Option.some FieldType.int), 1, 2, 895, 7, 894, 34),
  (⟨"CorkageOnRemarksModel", "moreOf", "(I)I"⟩, prog_9_method_28_code, (Option.some FieldType.int), 1, 2, 941, 7, 940, 39),
  (⟨"CorkageOnRemarksModel", "lessOf", "(I)I"⟩, prog_9_method_29_code, (Option.some FieldType.int), 1, 2, 945, 7, 944, 40),
  (⟨"CorkageOnRemarksModel", "priceOf", "(I)I"⟩, prog_9_method_30_code, (Option.some FieldType.int), 1, 2, 899, 7, 898, 35),
  (⟨"CorkageOnRemarksModel", "hears", "(I)I"⟩, prog_9_method_31_code, (Option.some FieldType.int), 1, 2, 903, 7, 902, 36),
  (⟨"CorkageOnRemarksModel", "changes", "(II)V"⟩, prog_9_method_32_code, (Option.none : Option FieldType), 2, 2, 871, 7, 870, 32),
  (⟨"CorkageOnRemarksModel", "opens", "(I)V"⟩, prog_9_method_33_code, (Option.none : Option FieldType), 1, 2, 931, 7, 930, 38),
  (⟨"CorkageOnRemarksModel", "nextReady", "(I)I"⟩, prog_9_method_34_code, (Option.some FieldType.int), 1, 2, 953, 7, 952, 42),
  (⟨"CorkageOnRemarksModel", "takes", "(I)V"⟩, prog_9_method_35_code, (Option.none : Option FieldType), 1, 2, 949, 7, 948, 41),
  (⟨"CorkageOnRemarksModel", "dines", "(I)I"⟩, prog_9_method_36_code, (Option.some FieldType.int), 1, 2, 927, 7, 926, 37),
  (⟨"CorkageOnRemarksModel", "all", "()I"⟩, prog_9_method_37_code, (Option.some FieldType.int), 0, 2, 957, 7, 956, 43),
  (⟨"CorkageOnRemarksModel", "openedMany", "()I"⟩, prog_9_method_38_code, (Option.some FieldType.int), 0, 2, 965, 7, 964, 45),
  (⟨"CorkageOnRemarksModel", "billOf", "(I)I"⟩, prog_9_method_39_code, (Option.some FieldType.int), 1, 2, 961, 7, 960, 44),
  (⟨"CorkageOnRemarksModel", "guest", "(II)I"⟩, prog_9_method_40_code, (Option.some FieldType.int), 2, 0, 883, 7, 881, 882),
  (⟨"CorkageOnRemarksModel", "remark", "(II)I"⟩, prog_9_method_41_code, (Option.some FieldType.int), 2, 0, 887, 7, 885, 886),
  (⟨"CorkageOnRemarksModel", "ready", "(II)I"⟩, prog_9_method_42_code, (Option.some FieldType.int), 2, 0, 907, 7, 905, 906),
  (⟨"CorkageOnRemarksModel", "mood", "(II)I"⟩, prog_9_method_43_code, (Option.some FieldType.int), 2, 0, 911, 7, 909, 910),
  (⟨"CorkageOnRemarksModel", "change", "(II)I"⟩, prog_9_method_44_code, (Option.some FieldType.int), 2, 0, 915, 7, 913, 914),
  (⟨"CorkageOnRemarksModel", "set", "(II)I"⟩, prog_9_method_45_code, (Option.some FieldType.int), 2, 0, 919, 7, 917, 918),
  (⟨"CorkageOnRemarksModel", "lastOpened", "()I"⟩, prog_9_method_46_code, (Option.some FieldType.int), 0, 2, 969, 7, 968, 46),
  (⟨"CorkageOnRemarksModel", "sums", "(I)I"⟩, prog_9_method_47_code, (Option.some FieldType.int), 1, 0, 923, 7, 921, 922),
  (⟨"CorkageOnRemarksModel", "of", "(II)I"⟩, prog_9_method_48_code, (Option.some FieldType.int), 2, 0, 973, 7, 971, 972),
  (⟨"CorkageOnRemarksModel", "moodAt", "(II)I"⟩, prog_9_method_49_code, (Option.some FieldType.int), 2, 0, 977, 7, 975, 976),
  (⟨"CorkageOnRemarksModel", "bill", "(I)I"⟩, prog_9_method_50_code, (Option.some FieldType.int), 1, 0, 981, 7, 979, 980),
  (⟨"CorkageOnRemarksModel", "without", "(I)I"⟩, prog_9_method_51_code, (Option.some FieldType.int), 1, 0, 985, 7, 983, 984),
  (⟨"CorkageOnRemarksModel", "moodsReady", "(II)I"⟩, prog_9_method_52_code, (Option.some FieldType.int), 2, 2, 998, 7, 997, 48),
  (⟨"CorkageOnRemarksModel", "bestMinute", "(I)I"⟩, prog_9_method_53_code, (Option.some FieldType.int), 1, 0, 994, 7, 992, 993),
  (⟨"CorkageOnRemarksModel", "enough", "()I"⟩, prog_9_method_54_code, (Option.some FieldType.int), 0, 0, 1002, 7, 1000, 1001),
  (⟨"CorkageOnRemarksModel", "swap", "()I"⟩, prog_9_method_55_code, (Option.some FieldType.int), 0, 0, 1006, 7, 1004, 1005),
  (⟨"CorkageOnRemarksModel", "fit", "()I"⟩, prog_9_method_56_code, (Option.some FieldType.int), 0, 0, 1010, 7, 1008, 1009),
  (⟨"CorkageOnRemarksModel", "likedBy", "(I)I"⟩, prog_9_method_57_code, (Option.some FieldType.int), 1, 2, 1018, 7, 1017, 49),
  (⟨"CorkageOnRemarksModel", "could", "(I)I"⟩, prog_9_method_58_code, (Option.some FieldType.int), 1, 0, 1014, 7, 1012, 1013),
  (⟨"CorkageOnRemarksModel", "dea\x72", "()I"⟩, prog_9_method_59_code, (Option.some FieldType.int), 0, 0, 1022, 7, 1020, 1021),
  (⟨"CorkageOnRemarksModel", "spare", "(I)I"⟩, prog_9_method_60_code, (Option.some FieldType.int), 1, 0, 1026, 7, 1024, 1025),
  (⟨"CorkageOnRemarksModel", "cold", "()I"⟩, prog_9_method_61_code, (Option.some FieldType.int), 0, 0, 1030, 7, 1028, 1029),
  (⟨"CorkageOnRemarksModel", "isOpenedAt", "(I)Z"⟩, prog_9_method_62_code, (Option.some FieldType.boolean), 1, 2, 1038, 7, 1037, 50),
  (⟨"CorkageOnRemarksModel", "silence", "(I)I"⟩, prog_9_method_63_code, (Option.some FieldType.int), 1, 0, 1034, 7, 1032, 1033),
  (⟨"CorkageOnRemarksModel", "busy", "(I)I"⟩, prog_9_method_64_code, (Option.some FieldType.int), 1, 0, 1042, 7, 1040, 1041),
  (⟨"CorkageOnRemarksModel", "isSo", "(I)Z"⟩, prog_9_method_65_code, (Option.some FieldType.boolean), 1, 2, 1050, 7, 1049, 51),
  (⟨"CorkageOnRemarksModel", "who", "(III)I"⟩, prog_9_method_66_code, (Option.some FieldType.int), 3, 0, 1046, 7, 1044, 1045),
  (⟨"CorkageOnRemarksModel", "broughtBy", "(I)I"⟩, prog_9_method_67_code, (Option.some FieldType.int), 1, 2, 1058, 7, 1057, 52),
  (⟨"CorkageOnRemarksModel", "rests", "(I)Z"⟩, prog_9_method_68_code, (Option.some FieldType.boolean), 1, 2, 1062, 7, 1061, 53),
  (⟨"CorkageOnRemarksModel", "haggle", "(II)I"⟩, prog_9_method_69_code, (Option.some FieldType.int), 2, 0, 1054, 7, 1052, 1053),
  (⟨"CorkageOnRemarksModel", "payments", "()I"⟩, prog_9_method_70_code, (Option.some FieldType.int), 0, 0, 1066, 7, 1064, 1065),
  (⟨"CorkageOnRemarksModel", "diviso\x72", "(JJ)J"⟩, prog_9_method_71_code, (Option.some FieldType.long), 2, 1, 1078, 7, 1077, 0),
  (⟨"CorkageOnRemarksModel", "odds", "(III)J"⟩, prog_9_method_72_code, (Option.some FieldType.long), 3, 0, 1070, 7, 1068, 1069),
  (⟨"CorkageOnRemarksModel", "row", "(I)I"⟩, prog_9_method_73_code, (Option.some FieldType.int), 1, 0, 1082, 7, 1080, 1081),
  (⟨"CorkageOnRemarksModel", "openedBy", "(I)I"⟩, prog_9_method_74_code, (Option.some FieldType.int), 1, 2, 1090, 7, 1089, 55),
  (⟨"CorkageOnRemarksModel", "judge", "()I"⟩, prog_9_method_75_code, (Option.some FieldType.int), 0, 0, 1086, 7, 1084, 1085),
  (⟨"CorkageOnRemarksModel", "clea\x72", "()I"⟩, prog_9_method_76_code, (Option.some FieldType.int), 0, 0, 1094, 7, 1092, 1093),
  (⟨"CorkageOnRemarksModel", "lots", "(III)I"⟩, prog_9_method_77_code, (Option.some FieldType.int), 3, 0, 1098, 7, 1096, 1097),
  (⟨"CorkageOnRemarksModel", "count", "(I)I"⟩, prog_9_method_78_code, (Option.some FieldType.int), 1, 0, 1105, 7, 1103, 1104)]
def rcD : Rc := (⟨"", "", ""⟩, ⟨#[]⟩, none, 0, 0, 0, 0, 0, 0)
def rc (k : Nat) : Rc := nthD recs k rcD
def yOf (k : Nat) : MethodName := (rc k).1
def bOf (k : Nat) : ByteArray := (rc k).2.1
def retOf (k : Nat) : Option FieldType := (rc k).2.2.1
def argN (k : Nat) : Nat := (rc k).2.2.2.1
def stOf (k : Nat) : Nat := (rc k).2.2.2.2.1
/-- what the tables say of method k -/
def okM (k : Nat) : Bool :=
  let r := rc k
  decide (tables_1[r.2.2.2.2.2.1]? = some (Cond.code r.1 r.2.1 (maxOf k) r.2.2.1))
  && decide (tables_1[r.2.2.2.2.2.2.1]? = some (Cond.initialized r.1.cls))
  && (Nat.beq k 1 || Nat.beq k 2 || Nat.beq k 3 || decide (plainName r.1.cls = true))
  && decide (r.1.cls ≠ "java/lang/invoke/MethodHandle" ∧ r.1.cls ≠ "java/lang/invoke/VarHandle" ∧ (parseMethodDescriptor r.1.desc).map (fun d => d.parameters.length) = some r.2.2.2.1)
  && Nat.ble (maxOf k) 15
  && (match r.2.2.2.2.1 with
    | 1 => decide (tables_1[r.2.2.2.2.2.2.2.1]? = some (Cond.static r.1))
    | 2 => decide (tables_1[r.2.2.2.2.2.2.2.1]? = some (Cond.instanceMethod r.1)) && decide ((lw_privs.map fun q => q.1)[r.2.2.2.2.2.2.2.2]? = some r.1)
    | _ => decide (tables_1[r.2.2.2.2.2.2.2.1]? = some (Cond.instanceMethod r.1)) && decide (tables_1[r.2.2.2.2.2.2.2.2]? = some (Cond.selects r.1.cls r.1 r.1)))
def fldT (a : Nat) : vw_C := nthD cls9 a ("", F_X, 0)
def lenOk (i : Instr) (len : Nat) : Bool := match i with
  | .bipush _ => Nat.beq len 2
  | .iload _ => Nat.beq len 2
  | .istore _ => Nat.beq len 2
  | .lload _ => Nat.beq len 2
  | .lstore _ => Nat.beq len 2
  | .aload _ => Nat.beq len 2
  | .astore _ => Nat.beq len 2
  | .ldc _ => Nat.beq len 2
  | .sipush _ => Nat.beq len 3
  | .iinc _ _ => Nat.beq len 3
  | .goto _ => Nat.beq len 3
  | .ifCond _ _ => Nat.beq len 3
  | .if_icmp _ _ => Nat.beq len 3
  | .getfield _ => Nat.beq len 3
  | .putfield _ => Nat.beq len 3
  | .invokevirtual _ => Nat.beq len 3
  | .invokestatic _ => Nat.beq len 3
  | .ldc_w _ => Nat.beq len 3
  | .ldc2_w _ => Nat.beq len 3
  | .tableswitch _ _ _ _ => true
  | .lookupswitch _ _ => true
  | _ => Nat.beq len 1
def resOk (own : String) (ret : Option FieldType) (pc : Nat) (i : Instr) (a b pos : Nat) (ks : List (Int × Nat)) : Bool := match i with
  | .iconst n => decide (-1 ≤ n ∧ n ≤ 5)
  | .bipush n => decide (-128 ≤ n ∧ n ≤ 127)
  | .sipush n => decide (-32768 ≤ n ∧ n ≤ 32767)
  | .iinc _ n => decide (-128 ≤ n ∧ n ≤ 127)
  | .ldc x => (match ks with
    | (v, _) :: _ => decide (tables_1[pos]? = some (Cond.constant own x (Int32.ofInt v))) && decide ((Int32.ofInt v).toInt = v)
    | [] => false)
  | .ldc_w x => (match ks with
    | (v, _) :: _ => decide (tables_1[pos]? = some (Cond.constant own x (Int32.ofInt v))) && decide ((Int32.ofInt v).toInt = v)
    | [] => false)
  | .ldc2_w x => (match ks with
    | (v, _) :: _ => decide (tables_1[pos]? = some (Cond.constantLong own x (Int64.ofInt v))) && decide ((Int64.ofInt v).toInt = v)
    | [] => false)
  | .goto off => decide ((pc : Int) + off = a)
  | .ifCond _ off => decide ((pc : Int) + off = a)
  | .if_icmp _ off => decide ((pc : Int) + off = a)
  | .tableswitch d lo hi offs => decide ((pc : Int) + d = a) && decide (ks.map (fun q => (q.2 : Int)) = offs.toList.map (fun f => (pc : Int) + f)) && decide (ks.map (fun q => q.1) = (List.range offs.size).map (fun (n : Nat) => lo + (n : Int))) && decide (hi = lo + (offs.size : Int) - 1)
  | .lookupswitch d ps => decide ((pc : Int) + d = a) && decide (ks.map (fun q => (q.1, (q.2 : Int))) = ps.toList.map (fun q => (q.1, (pc : Int) + q.2))) && (ps.toList.zip (ps.toList.drop 1)).all (fun (x, next) => x.1 < next.1)
  | .getfield x => Nat.blt a 7 && Nat.blt b (fldT a).2.2 && decide (tables_1[pos]? = some (Cond.fieldLink own x ((fldT a).2.1 b).1 ((fldT a).2.1 b).2.1 ((fldT a).2.1 b).2.2.1))
  | .putfield x => Nat.blt a 7 && Nat.blt b (fldT a).2.2 && decide (tables_1[pos]? = some (Cond.fieldLink own x ((fldT a).2.1 b).1 ((fldT a).2.1 b).2.1 ((fldT a).2.1 b).2.2.1)) && !((fldT a).2.1 b).2.2.2 && decide (((fldT a).2.1 b).2.2.1 = if isB a b = true then "Z" else "I")
  | .invokevirtual x => Nat.blt a 192 && Nat.beq b (argN a) && !(Nat.beq (stOf a) 1) && decide (tables_1[pos]? = some (Cond.methodLink own x (yOf a)))
  | .invokestatic x => Nat.blt a 192 && Nat.beq b (argN a) && Nat.beq (stOf a) 1 && (decide (tables_1[pos]? = some (Cond.methodLink own x (yOf a))) || decide (tables_1[pos]? = some (Cond.methodLinkNest own x (yOf a) "CorkageOnRemarks")))
  | .ireturn => cond (Nat.beq a 1) (decide (ret = some .boolean)) (decide (ret = some .int))
  | .lreturn => decide (ret = some .long)
  | .areturn => decide (ret = some (.object "CorkageOnRemarks$Evening"))
  | .return_ => decide (ret = none)
  | _ => true
def okE (own : String) (bytes : ByteArray) (ret : Option FieldType) (q : Nat × En) : Bool :=
  decide (decode bytes q.1 = .ok (q.2.1, q.2.2.1)) && lenOk q.2.1 q.2.2.1 && resOk own ret q.1 q.2.1 q.2.2.2.1 q.2.2.2.2.1 q.2.2.2.2.2.1 q.2.2.2.2.2.2
def okC (own : String) (bytes : ByteArray) (ret : Option FieldType) (cd : List (Nat × En)) : Bool := cd.all (okE own bytes ret)
def okK (k : Nat) : Bool := okC (yOf k).cls (bOf k) (retOf k) (codeOf k)
set_option maxRecDepth 100000 in
theorem okM_0 : ∀ k, k < 24 → okM (0 + k) = true := by decide +kernel
set_option maxRecDepth 100000 in
theorem okM_24 : ∀ k, k < 24 → okM (24 + k) = true := by decide +kernel
set_option maxRecDepth 100000 in
theorem okM_48 : ∀ k, k < 24 → okM (48 + k) = true := by decide +kernel
set_option maxRecDepth 100000 in
theorem okM_72 : ∀ k, k < 24 → okM (72 + k) = true := by decide +kernel
set_option maxRecDepth 100000 in
theorem okM_96 : ∀ k, k < 24 → okM (96 + k) = true := by decide +kernel
set_option maxRecDepth 100000 in
theorem okM_120 : ∀ k, k < 24 → okM (120 + k) = true := by decide +kernel
set_option maxRecDepth 100000 in
theorem okM_144 : ∀ k, k < 24 → okM (144 + k) = true := by decide +kernel
set_option maxRecDepth 100000 in
theorem okM_168 : ∀ k, k < 24 → okM (168 + k) = true := by decide +kernel
set_option maxRecDepth 100000 in
theorem okK_In_bitCount : okK 0 = true := by decide +kernel
set_option maxRecDepth 100000 in
theorem okK_Mh_max : okK 1 = true := by decide +kernel
set_option maxRecDepth 100000 in
theorem okK_Mh_max2 : okK 2 = true := by decide +kernel
set_option maxRecDepth 100000 in
theorem okK_Mh_min : okK 3 = true := by decide +kernel
set_option maxRecDepth 100000 in
theorem okK_Kd_minutesFor : okK 4 = true := by decide +kernel
set_option maxRecDepth 100000 in
theorem okK_Kd_moreMood : okK 5 = true := by decide +kernel
set_option maxRecDepth 100000 in
theorem okK_Kd_lessMood : okK 6 = true := by decide +kernel
set_option maxRecDepth 100000 in
theorem okK_Kd_price : okK 7 = true := by decide +kernel
set_option maxRecDepth 100000 in
theorem okK_Tb_copyFrom : okK 8 = true := by decide +kernel
set_option maxRecDepth 100000 in
theorem okK_Tb_hasGuest : okK 9 = true := by decide +kernel
set_option maxRecDepth 100000 in
theorem okK_Tb_hasTwo : okK 10 = true := by decide +kernel
set_option maxRecDepth 100000 in
theorem okK_Tb_hasRemark : okK 11 = true := by decide +kernel
set_option maxRecDepth 100000 in
theorem okK_Tb_seat : okK 12 = true := by decide +kernel
set_option maxRecDepth 100000 in
theorem okK_Tb_bring : okK 13 = true := by decide +kernel
set_option maxRecDepth 100000 in
theorem okK_Tb_hire : okK 14 = true := by decide +kernel
set_option maxRecDepth 100000 in
theorem okK_Tb_charge : okK 15 = true := by decide +kernel
set_option maxRecDepth 100000 in
theorem okK_Tb_humour : okK 16 = true := by decide +kernel
set_option maxRecDepth 100000 in
theorem okK_Tb_changeSeats : okK 17 = true := by decide +kernel
set_option maxRecDepth 100000 in
theorem okK_Tb_minutesFor : okK 18 = true := by decide +kernel
set_option maxRecDepth 100000 in
theorem okK_Tb_priceOf : okK 19 = true := by decide +kernel
set_option maxRecDepth 100000 in
theorem okK_Tb_hearersOf : okK 20 = true := by decide +kernel
set_option maxRecDepth 100000 in
theorem okK_Tb_likersOf : okK 21 = true := by decide +kernel
set_option maxRecDepth 100000 in
theorem okK_Tb_moodsTogether : okK 22 = true := by decide +kernel
set_option maxRecDepth 100000 in
theorem okK_Tb_allPrices : okK 23 = true := by decide +kernel
set_option maxRecDepth 100000 in
theorem okK_Tb_mostLikers : okK 24 = true := by decide +kernel
set_option maxRecDepth 100000 in
theorem okK_Tb_topicsLikedBy : okK 25 = true := by decide +kernel
set_option maxRecDepth 100000 in
theorem okK_Tb_dearest : okK 26 = true := by decide +kernel
set_option maxRecDepth 100000 in
theorem okK_Tb_broughtBy : okK 27 = true := by decide +kernel
set_option maxRecDepth 100000 in
theorem okK_Ev_run : okK 28 = true := by decide +kernel
set_option maxRecDepth 100000 in
theorem okK_Ev_begin : okK 29 = true := by decide +kernel
set_option maxRecDepth 100000 in
theorem okK_Ev_pass : okK 30 = true := by decide +kernel
set_option maxRecDepth 100000 in
theorem okK_Ev_open : okK 31 = true := by decide +kernel
set_option maxRecDepth 100000 in
theorem okK_Ev_changeMoods : okK 32 = true := by decide +kernel
set_option maxRecDepth 100000 in
theorem okK_Ev_takeWhatIsReady : okK 33 = true := by decide +kernel
set_option maxRecDepth 100000 in
theorem okK_Ev_nextToTake : okK 34 = true := by decide +kernel
set_option maxRecDepth 100000 in
theorem okK_Ev_busyAt : okK 35 = true := by decide +kernel
set_option maxRecDepth 100000 in
theorem okK_Ev_minutesWithBusy : okK 36 = true := by decide +kernel
set_option maxRecDepth 100000 in
theorem okK_Ev_moodsTogether : okK 37 = true := by decide +kernel
set_option maxRecDepth 100000 in
theorem okK_Ev_billOf : okK 38 = true := by decide +kernel
set_option maxRecDepth 100000 in
theorem okK_Ev_wholeBill : okK 39 = true := by decide +kernel
set_option maxRecDepth 100000 in
theorem okK_Ev_openedBy : okK 40 = true := by decide +kernel
set_option maxRecDepth 100000 in
theorem okK_Ev_howManySentBack : okK 41 = true := by decide +kernel
set_option maxRecDepth 100000 in
theorem okK_Ev_lastOpening : okK 42 = true := by decide +kernel
set_option maxRecDepth 100000 in
theorem okK_Ev_isSilent : okK 43 = true := by decide +kernel
set_option maxRecDepth 100000 in
theorem okK_Ev_longestSilence : okK 44 = true := by decide +kernel
set_option maxRecDepth 100000 in
theorem okK_Ev_startOfSilence : okK 45 = true := by decide +kernel
set_option maxRecDepth 100000 in
theorem okK_Lt_add : okK 46 = true := by decide +kernel
set_option maxRecDepth 100000 in
theorem okK_Lt_at : okK 47 = true := by decide +kernel
set_option maxRecDepth 100000 in
theorem okK_Lt_sizeOf : okK 48 = true := by decide +kernel
set_option maxRecDepth 100000 in
theorem okK_Lt_kindOf : okK 49 = true := by decide +kernel
set_option maxRecDepth 100000 in
theorem okK_Lt_firstStray : okK 50 = true := by decide +kernel
set_option maxRecDepth 100000 in
theorem okK_Lt_strayFrom : okK 51 = true := by decide +kernel
set_option maxRecDepth 100000 in
theorem okK_Lt_fits : okK 52 = true := by decide +kernel
set_option maxRecDepth 100000 in
theorem okK_Lt_tell : okK 53 = true := by decide +kernel
set_option maxRecDepth 100000 in
theorem okK_Lt_number : okK 54 = true := by decide +kernel
set_option maxRecDepth 100000 in
theorem okK_Sh_fewestPayments : okK 55 = true := by decide +kernel
set_option maxRecDepth 100000 in
theorem okK_Sh_findWhoIsOver : okK 56 = true := by decide +kernel
set_option maxRecDepth 100000 in
theorem okK_Sh_mostGroups : okK 57 = true := by decide +kernel
set_option maxRecDepth 100000 in
theorem okK_Tr_moodsLeaving : okK 58 = true := by decide +kernel
set_option maxRecDepth 100000 in
theorem okK_Tr_moodBehind : okK 59 = true := by decide +kernel
set_option maxRecDepth 100000 in
theorem okK_Tr_moreWithout : okK 60 = true := by decide +kernel
set_option maxRecDepth 100000 in
theorem okK_Tr_minuteOfMostMoods : okK 61 = true := by decide +kernel
set_option maxRecDepth 100000 in
theorem okK_Tr_leastWaiters : okK 62 = true := by decide +kernel
set_option maxRecDepth 100000 in
theorem okK_Tr_seatsOfMostMoods : okK 63 = true := by decide +kernel
set_option maxRecDepth 100000 in
theorem okK_Tr_bringerOfMostMoods : okK 64 = true := by decide +kernel
set_option maxRecDepth 100000 in
theorem okK_Tr_leftSoNothingIsSentBack : okK 65 = true := by decide +kernel
set_option maxRecDepth 100000 in
theorem okK_Tr_leftForMostMoods : okK 66 = true := by decide +kernel
set_option maxRecDepth 100000 in
theorem okK_Tr_isAsTold : okK 67 = true := by decide +kernel
set_option maxRecDepth 100000 in
theorem okK_Tr_firstSettledPair : okK 68 = true := by decide +kernel
set_option maxRecDepth 100000 in
theorem okK_Tr_worthOf : okK 69 = true := by decide +kernel
set_option maxRecDepth 100000 in
theorem okK_Tr_waysToReach : okK 70 = true := by decide +kernel
set_option maxRecDepth 100000 in
theorem okK_Tr_byLot : okK 71 = true := by decide +kernel
set_option maxRecDepth 100000 in
theorem okK_X_letter : okK 72 = true := by decide +kernel
set_option maxRecDepth 100000 in
theorem okK_X_table : okK 73 = true := by decide +kernel
set_option maxRecDepth 100000 in
theorem okK_X_guest : okK 74 = true := by decide +kernel
set_option maxRecDepth 100000 in
theorem okK_X_remark : okK 75 = true := by decide +kernel
set_option maxRecDepth 100000 in
theorem okK_X_ready : okK 76 = true := by decide +kernel
set_option maxRecDepth 100000 in
theorem okK_X_mood : okK 77 = true := by decide +kernel
set_option maxRecDepth 100000 in
theorem okK_X_change : okK 78 = true := by decide +kernel
set_option maxRecDepth 100000 in
theorem okK_X_set : okK 79 = true := by decide +kernel
set_option maxRecDepth 100000 in
theorem okK_X_sums : okK 80 = true := by decide +kernel
set_option maxRecDepth 100000 in
theorem okK_X_of : okK 81 = true := by decide +kernel
set_option maxRecDepth 100000 in
theorem okK_X_moodAt : okK 82 = true := by decide +kernel
set_option maxRecDepth 100000 in
theorem okK_X_bill : okK 83 = true := by decide +kernel
set_option maxRecDepth 100000 in
theorem okK_X_without : okK 84 = true := by decide +kernel
set_option maxRecDepth 100000 in
theorem okK_X_bestMinute : okK 85 = true := by decide +kernel
set_option maxRecDepth 100000 in
theorem okK_X_enough : okK 86 = true := by decide +kernel
set_option maxRecDepth 100000 in
theorem okK_X_swap : okK 87 = true := by decide +kernel
set_option maxRecDepth 100000 in
theorem okK_X_fit : okK 88 = true := by decide +kernel
set_option maxRecDepth 100000 in
theorem okK_X_could : okK 89 = true := by decide +kernel
set_option maxRecDepth 100000 in
theorem okK_X_dear : okK 90 = true := by decide +kernel
set_option maxRecDepth 100000 in
theorem okK_X_spare : okK 91 = true := by decide +kernel
set_option maxRecDepth 100000 in
theorem okK_X_cold : okK 92 = true := by decide +kernel
set_option maxRecDepth 100000 in
theorem okK_X_silence : okK 93 = true := by decide +kernel
set_option maxRecDepth 100000 in
theorem okK_X_busy : okK 94 = true := by decide +kernel
set_option maxRecDepth 100000 in
theorem okK_X_who : okK 95 = true := by decide +kernel
set_option maxRecDepth 100000 in
theorem okK_X_haggle : okK 96 = true := by decide +kernel
set_option maxRecDepth 100000 in
theorem okK_X_payments : okK 97 = true := by decide +kernel
set_option maxRecDepth 100000 in
theorem okK_X_odds : okK 98 = true := by decide +kernel
set_option maxRecDepth 100000 in
theorem okK_X_row : okK 99 = true := by decide +kernel
set_option maxRecDepth 100000 in
theorem okK_X_judge : okK 100 = true := by decide +kernel
set_option maxRecDepth 100000 in
theorem okK_X_clear : okK 101 = true := by decide +kernel
set_option maxRecDepth 100000 in
theorem okK_X_lots : okK 102 = true := by decide +kernel
set_option maxRecDepth 100000 in
theorem okK_X_image : okK 103 = true := by decide +kernel
set_option maxRecDepth 100000 in
theorem okK_X_on : okK 104 = true := by decide +kernel
set_option maxRecDepth 100000 in
theorem okK_X_count : okK 105 = true := by decide +kernel
set_option maxRecDepth 100000 in
theorem okK_X_refuse : okK 106 = true := by decide +kernel
set_option maxRecDepth 100000 in
theorem okK_X_refuseLong : okK 107 = true := by decide +kernel
set_option maxRecDepth 100000 in
theorem okK_X_eveningNow : okK 108 = true := by decide +kernel
set_option maxRecDepth 100000 in
theorem okK_X_become : okK 109 = true := by decide +kernel
set_option maxRecDepth 100000 in
theorem okK_X_kindsAsTold : okK 110 = true := by decide +kernel
set_option maxRecDepth 100000 in
theorem okK_X_topicsAsTold : okK 111 = true := by decide +kernel
set_option maxRecDepth 100000 in
theorem okK_X_firstUntrue : okK 112 = true := by decide +kernel
set_option maxRecDepth 100000 in
theorem okK_X_power : okK 113 = true := by decide +kernel
set_option maxRecDepth 100000 in
theorem okK_X_greatestDivisor : okK 114 = true := by decide +kernel
set_option maxRecDepth 100000 in
theorem okK_Mo_no : okK 115 = true := by decide +kernel
set_option maxRecDepth 100000 in
theorem okK_Mo_lower : okK 116 = true := by decide +kernel
set_option maxRecDepth 100000 in
theorem okK_Mo_lowest : okK 117 = true := by decide +kernel
set_option maxRecDepth 100000 in
theorem okK_Mo_isIn : okK 118 = true := by decide +kernel
set_option maxRecDepth 100000 in
theorem okK_Mo_bound : okK 119 = true := by decide +kernel
set_option maxRecDepth 100000 in
theorem okK_Mo_has : okK 120 = true := by decide +kernel
set_option maxRecDepth 100000 in
theorem okK_Mo_bits : okK 121 = true := by decide +kernel
set_option maxRecDepth 100000 in
theorem okK_Mo_isGuest : okK 122 = true := by decide +kernel
set_option maxRecDepth 100000 in
theorem okK_Mo_areTwo : okK 123 = true := by decide +kernel
set_option maxRecDepth 100000 in
theorem okK_Mo_isRemark : okK 124 = true := by decide +kernel
set_option maxRecDepth 100000 in
theorem okK_Mo_letter : okK 125 = true := by decide +kernel
set_option maxRecDepth 100000 in
theorem okK_Mo_next : okK 126 = true := by decide +kernel
set_option maxRecDepth 100000 in
theorem okK_Mo_readsDigits : okK 127 = true := by decide +kernel
set_option maxRecDepth 100000 in
theorem okK_Mo_kindOf : okK 128 = true := by decide +kernel
set_option maxRecDepth 100000 in
theorem okK_Mo_readsRemark : okK 129 = true := by decide +kernel
set_option maxRecDepth 100000 in
theorem okK_Mo_readsAll : okK 130 = true := by decide +kernel
set_option maxRecDepth 100000 in
theorem okK_Mo_statement : okK 131 = true := by decide +kernel
set_option maxRecDepth 100000 in
theorem okK_Mo_comesRemark : okK 132 = true := by decide +kernel
set_option maxRecDepth 100000 in
theorem okK_Mo_comes : okK 133 = true := by decide +kernel
set_option maxRecDepth 100000 in
theorem okK_Mo_table : okK 134 = true := by decide +kernel
set_option maxRecDepth 100000 in
theorem okK_Mo_passes : okK 135 = true := by decide +kernel
set_option maxRecDepth 100000 in
theorem okK_Mo_passOne : okK 136 = true := by decide +kernel
set_option maxRecDepth 100000 in
theorem okK_Mo_passesAll : okK 137 = true := by decide +kernel
set_option maxRecDepth 100000 in
theorem okK_Mo_image : okK 138 = true := by decide +kernel
set_option maxRecDepth 100000 in
theorem okK_Mo_on : okK 139 = true := by decide +kernel
set_option maxRecDepth 100000 in
theorem okK_Mo_minutesOf : okK 140 = true := by decide +kernel
set_option maxRecDepth 100000 in
theorem okK_Mo_moreOf : okK 141 = true := by decide +kernel
set_option maxRecDepth 100000 in
theorem okK_Mo_lessOf : okK 142 = true := by decide +kernel
set_option maxRecDepth 100000 in
theorem okK_Mo_priceOf : okK 143 = true := by decide +kernel
set_option maxRecDepth 100000 in
theorem okK_Mo_hears : okK 144 = true := by decide +kernel
set_option maxRecDepth 100000 in
theorem okK_Mo_changes : okK 145 = true := by decide +kernel
set_option maxRecDepth 100000 in
theorem okK_Mo_opens : okK 146 = true := by decide +kernel
set_option maxRecDepth 100000 in
theorem okK_Mo_nextReady : okK 147 = true := by decide +kernel
set_option maxRecDepth 100000 in
theorem okK_Mo_takes : okK 148 = true := by decide +kernel
set_option maxRecDepth 100000 in
theorem okK_Mo_dines : okK 149 = true := by decide +kernel
set_option maxRecDepth 100000 in
theorem okK_Mo_all : okK 150 = true := by decide +kernel
set_option maxRecDepth 100000 in
theorem okK_Mo_openedMany : okK 151 = true := by decide +kernel
set_option maxRecDepth 100000 in
theorem okK_Mo_billOf : okK 152 = true := by decide +kernel
set_option maxRecDepth 100000 in
theorem okK_Mo_guest : okK 153 = true := by decide +kernel
set_option maxRecDepth 100000 in
theorem okK_Mo_remark : okK 154 = true := by decide +kernel
set_option maxRecDepth 100000 in
theorem okK_Mo_ready : okK 155 = true := by decide +kernel
set_option maxRecDepth 100000 in
theorem okK_Mo_mood : okK 156 = true := by decide +kernel
set_option maxRecDepth 100000 in
theorem okK_Mo_change : okK 157 = true := by decide +kernel
set_option maxRecDepth 100000 in
theorem okK_Mo_set : okK 158 = true := by decide +kernel
set_option maxRecDepth 100000 in
theorem okK_Mo_lastOpened : okK 159 = true := by decide +kernel
set_option maxRecDepth 100000 in
theorem okK_Mo_sums : okK 160 = true := by decide +kernel
set_option maxRecDepth 100000 in
theorem okK_Mo_of : okK 161 = true := by decide +kernel
set_option maxRecDepth 100000 in
theorem okK_Mo_moodAt : okK 162 = true := by decide +kernel
set_option maxRecDepth 100000 in
theorem okK_Mo_bill : okK 163 = true := by decide +kernel
set_option maxRecDepth 100000 in
theorem okK_Mo_without : okK 164 = true := by decide +kernel
set_option maxRecDepth 100000 in
theorem okK_Mo_moodsReady : okK 165 = true := by decide +kernel
set_option maxRecDepth 100000 in
theorem okK_Mo_bestMinute : okK 166 = true := by decide +kernel
set_option maxRecDepth 100000 in
theorem okK_Mo_enough : okK 167 = true := by decide +kernel
set_option maxRecDepth 100000 in
theorem okK_Mo_swap : okK 168 = true := by decide +kernel
set_option maxRecDepth 100000 in
theorem okK_Mo_fit : okK 169 = true := by decide +kernel
set_option maxRecDepth 100000 in
theorem okK_Mo_likedBy : okK 170 = true := by decide +kernel
set_option maxRecDepth 100000 in
theorem okK_Mo_could : okK 171 = true := by decide +kernel
set_option maxRecDepth 100000 in
theorem okK_Mo_dear : okK 172 = true := by decide +kernel
set_option maxRecDepth 100000 in
theorem okK_Mo_spare : okK 173 = true := by decide +kernel
set_option maxRecDepth 100000 in
theorem okK_Mo_cold : okK 174 = true := by decide +kernel
set_option maxRecDepth 100000 in
theorem okK_Mo_isOpenedAt : okK 175 = true := by decide +kernel
set_option maxRecDepth 100000 in
theorem okK_Mo_silence : okK 176 = true := by decide +kernel
set_option maxRecDepth 100000 in
theorem okK_Mo_busy : okK 177 = true := by decide +kernel
set_option maxRecDepth 100000 in
theorem okK_Mo_isSo : okK 178 = true := by decide +kernel
set_option maxRecDepth 100000 in
theorem okK_Mo_who : okK 179 = true := by decide +kernel
set_option maxRecDepth 100000 in
theorem okK_Mo_broughtBy : okK 180 = true := by decide +kernel
set_option maxRecDepth 100000 in
theorem okK_Mo_rests : okK 181 = true := by decide +kernel
set_option maxRecDepth 100000 in
theorem okK_Mo_haggle : okK 182 = true := by decide +kernel
set_option maxRecDepth 100000 in
theorem okK_Mo_payments : okK 183 = true := by decide +kernel
set_option maxRecDepth 100000 in
theorem okK_Mo_divisor : okK 184 = true := by decide +kernel
set_option maxRecDepth 100000 in
theorem okK_Mo_odds : okK 185 = true := by decide +kernel
set_option maxRecDepth 100000 in
theorem okK_Mo_row : okK 186 = true := by decide +kernel
set_option maxRecDepth 100000 in
theorem okK_Mo_openedBy : okK 187 = true := by decide +kernel
set_option maxRecDepth 100000 in
theorem okK_Mo_judge : okK 188 = true := by decide +kernel
set_option maxRecDepth 100000 in
theorem okK_Mo_clear : okK 189 = true := by decide +kernel
set_option maxRecDepth 100000 in
theorem okK_Mo_lots : okK 190 = true := by decide +kernel
set_option maxRecDepth 100000 in
theorem okK_Mo_count : okK 191 = true := by decide +kernel
theorem okM_all (k : Nat) (h : k < 192) : okM k = true := by
  by_cases h24 : k < 24
  · have := okM_0 (k - 0) (by omega)
    rwa [show 0 + (k - 0) = k by omega] at this
  by_cases h48 : k < 48
  · have := okM_24 (k - 24) (by omega)
    rwa [show 24 + (k - 24) = k by omega] at this
  by_cases h72 : k < 72
  · have := okM_48 (k - 48) (by omega)
    rwa [show 48 + (k - 48) = k by omega] at this
  by_cases h96 : k < 96
  · have := okM_72 (k - 72) (by omega)
    rwa [show 72 + (k - 72) = k by omega] at this
  by_cases h120 : k < 120
  · have := okM_96 (k - 96) (by omega)
    rwa [show 96 + (k - 96) = k by omega] at this
  by_cases h144 : k < 144
  · have := okM_120 (k - 120) (by omega)
    rwa [show 120 + (k - 120) = k by omega] at this
  by_cases h168 : k < 168
  · have := okM_144 (k - 144) (by omega)
    rwa [show 144 + (k - 144) = k by omega] at this
  by_cases h192 : k < 192
  · have := okM_168 (k - 168) (by omega)
    rwa [show 168 + (k - 168) = k by omega] at this
  omega
theorem okK_all : ∀ k, k < 192 → okK k = true
  | 0, _ => okK_In_bitCount
  | 1, _ => okK_Mh_max
  | 2, _ => okK_Mh_max2
  | 3, _ => okK_Mh_min
  | 4, _ => okK_Kd_minutesFor
  | 5, _ => okK_Kd_moreMood
  | 6, _ => okK_Kd_lessMood
  | 7, _ => okK_Kd_price
  | 8, _ => okK_Tb_copyFrom
  | 9, _ => okK_Tb_hasGuest
  | 10, _ => okK_Tb_hasTwo
  | 11, _ => okK_Tb_hasRemark
  | 12, _ => okK_Tb_seat
  | 13, _ => okK_Tb_bring
  | 14, _ => okK_Tb_hire
  | 15, _ => okK_Tb_charge
  | 16, _ => okK_Tb_humour
  | 17, _ => okK_Tb_changeSeats
  | 18, _ => okK_Tb_minutesFor
  | 19, _ => okK_Tb_priceOf
  | 20, _ => okK_Tb_hearersOf
  | 21, _ => okK_Tb_likersOf
  | 22, _ => okK_Tb_moodsTogether
  | 23, _ => okK_Tb_allPrices
  | 24, _ => okK_Tb_mostLikers
  | 25, _ => okK_Tb_topicsLikedBy
  | 26, _ => okK_Tb_dearest
  | 27, _ => okK_Tb_broughtBy
  | 28, _ => okK_Ev_run
  | 29, _ => okK_Ev_begin
  | 30, _ => okK_Ev_pass
  | 31, _ => okK_Ev_open
  | 32, _ => okK_Ev_changeMoods
  | 33, _ => okK_Ev_takeWhatIsReady
  | 34, _ => okK_Ev_nextToTake
  | 35, _ => okK_Ev_busyAt
  | 36, _ => okK_Ev_minutesWithBusy
  | 37, _ => okK_Ev_moodsTogether
  | 38, _ => okK_Ev_billOf
  | 39, _ => okK_Ev_wholeBill
  | 40, _ => okK_Ev_openedBy
  | 41, _ => okK_Ev_howManySentBack
  | 42, _ => okK_Ev_lastOpening
  | 43, _ => okK_Ev_isSilent
  | 44, _ => okK_Ev_longestSilence
  | 45, _ => okK_Ev_startOfSilence
  | 46, _ => okK_Lt_add
  | 47, _ => okK_Lt_at
  | 48, _ => okK_Lt_sizeOf
  | 49, _ => okK_Lt_kindOf
  | 50, _ => okK_Lt_firstStray
  | 51, _ => okK_Lt_strayFrom
  | 52, _ => okK_Lt_fits
  | 53, _ => okK_Lt_tell
  | 54, _ => okK_Lt_number
  | 55, _ => okK_Sh_fewestPayments
  | 56, _ => okK_Sh_findWhoIsOver
  | 57, _ => okK_Sh_mostGroups
  | 58, _ => okK_Tr_moodsLeaving
  | 59, _ => okK_Tr_moodBehind
  | 60, _ => okK_Tr_moreWithout
  | 61, _ => okK_Tr_minuteOfMostMoods
  | 62, _ => okK_Tr_leastWaiters
  | 63, _ => okK_Tr_seatsOfMostMoods
  | 64, _ => okK_Tr_bringerOfMostMoods
  | 65, _ => okK_Tr_leftSoNothingIsSentBack
  | 66, _ => okK_Tr_leftForMostMoods
  | 67, _ => okK_Tr_isAsTold
  | 68, _ => okK_Tr_firstSettledPair
  | 69, _ => okK_Tr_worthOf
  | 70, _ => okK_Tr_waysToReach
  | 71, _ => okK_Tr_byLot
  | 72, _ => okK_X_letter
  | 73, _ => okK_X_table
  | 74, _ => okK_X_guest
  | 75, _ => okK_X_remark
  | 76, _ => okK_X_ready
  | 77, _ => okK_X_mood
  | 78, _ => okK_X_change
  | 79, _ => okK_X_set
  | 80, _ => okK_X_sums
  | 81, _ => okK_X_of
  | 82, _ => okK_X_moodAt
  | 83, _ => okK_X_bill
  | 84, _ => okK_X_without
  | 85, _ => okK_X_bestMinute
  | 86, _ => okK_X_enough
  | 87, _ => okK_X_swap
  | 88, _ => okK_X_fit
  | 89, _ => okK_X_could
  | 90, _ => okK_X_dear
  | 91, _ => okK_X_spare
  | 92, _ => okK_X_cold
  | 93, _ => okK_X_silence
  | 94, _ => okK_X_busy
  | 95, _ => okK_X_who
  | 96, _ => okK_X_haggle
  | 97, _ => okK_X_payments
  | 98, _ => okK_X_odds
  | 99, _ => okK_X_row
  | 100, _ => okK_X_judge
  | 101, _ => okK_X_clear
  | 102, _ => okK_X_lots
  | 103, _ => okK_X_image
  | 104, _ => okK_X_on
  | 105, _ => okK_X_count
  | 106, _ => okK_X_refuse
  | 107, _ => okK_X_refuseLong
  | 108, _ => okK_X_eveningNow
  | 109, _ => okK_X_become
  | 110, _ => okK_X_kindsAsTold
  | 111, _ => okK_X_topicsAsTold
  | 112, _ => okK_X_firstUntrue
  | 113, _ => okK_X_power
  | 114, _ => okK_X_greatestDivisor
  | 115, _ => okK_Mo_no
  | 116, _ => okK_Mo_lower
  | 117, _ => okK_Mo_lowest
  | 118, _ => okK_Mo_isIn
  | 119, _ => okK_Mo_bound
  | 120, _ => okK_Mo_has
  | 121, _ => okK_Mo_bits
  | 122, _ => okK_Mo_isGuest
  | 123, _ => okK_Mo_areTwo
  | 124, _ => okK_Mo_isRemark
  | 125, _ => okK_Mo_letter
  | 126, _ => okK_Mo_next
  | 127, _ => okK_Mo_readsDigits
  | 128, _ => okK_Mo_kindOf
  | 129, _ => okK_Mo_readsRemark
  | 130, _ => okK_Mo_readsAll
  | 131, _ => okK_Mo_statement
  | 132, _ => okK_Mo_comesRemark
  | 133, _ => okK_Mo_comes
  | 134, _ => okK_Mo_table
  | 135, _ => okK_Mo_passes
  | 136, _ => okK_Mo_passOne
  | 137, _ => okK_Mo_passesAll
  | 138, _ => okK_Mo_image
  | 139, _ => okK_Mo_on
  | 140, _ => okK_Mo_minutesOf
  | 141, _ => okK_Mo_moreOf
  | 142, _ => okK_Mo_lessOf
  | 143, _ => okK_Mo_priceOf
  | 144, _ => okK_Mo_hears
  | 145, _ => okK_Mo_changes
  | 146, _ => okK_Mo_opens
  | 147, _ => okK_Mo_nextReady
  | 148, _ => okK_Mo_takes
  | 149, _ => okK_Mo_dines
  | 150, _ => okK_Mo_all
  | 151, _ => okK_Mo_openedMany
  | 152, _ => okK_Mo_billOf
  | 153, _ => okK_Mo_guest
  | 154, _ => okK_Mo_remark
  | 155, _ => okK_Mo_ready
  | 156, _ => okK_Mo_mood
  | 157, _ => okK_Mo_change
  | 158, _ => okK_Mo_set
  | 159, _ => okK_Mo_lastOpened
  | 160, _ => okK_Mo_sums
  | 161, _ => okK_Mo_of
  | 162, _ => okK_Mo_moodAt
  | 163, _ => okK_Mo_bill
  | 164, _ => okK_Mo_without
  | 165, _ => okK_Mo_moodsReady
  | 166, _ => okK_Mo_bestMinute
  | 167, _ => okK_Mo_enough
  | 168, _ => okK_Mo_swap
  | 169, _ => okK_Mo_fit
  | 170, _ => okK_Mo_likedBy
  | 171, _ => okK_Mo_could
  | 172, _ => okK_Mo_dear
  | 173, _ => okK_Mo_spare
  | 174, _ => okK_Mo_cold
  | 175, _ => okK_Mo_isOpenedAt
  | 176, _ => okK_Mo_silence
  | 177, _ => okK_Mo_busy
  | 178, _ => okK_Mo_isSo
  | 179, _ => okK_Mo_who
  | 180, _ => okK_Mo_broughtBy
  | 181, _ => okK_Mo_rests
  | 182, _ => okK_Mo_haggle
  | 183, _ => okK_Mo_payments
  | 184, _ => okK_Mo_divisor
  | 185, _ => okK_Mo_odds
  | 186, _ => okK_Mo_row
  | 187, _ => okK_Mo_openedBy
  | 188, _ => okK_Mo_judge
  | 189, _ => okK_Mo_clear
  | 190, _ => okK_Mo_lots
  | 191, _ => okK_Mo_count
  | n + 192, h => absurd h (by omega)
