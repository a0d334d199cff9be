/** Whole deals with what they are worth; computed by a program apart from the class. */
final class ScoredDeals {
    private ScoredDeals() {
    }

    /** The level, the thirds, the result, the partner, and the deal, in which no bird is in the last trick. */
    static final String[][] AROUND_HALF = {
        {"1", "102", "-11", "3", "deal 7682 bid 1 0 0 0 call 3 take 1 discard 0 4 5"},
        {"1", "103", "-10", "1", "deal 44753 bid 0 0 1 0 call 1 take 0 discard 4 9 12"},
        {"1", "104", "-10", "2", "deal 36624 bid 1 0 0 0 call 2 take 0 discard 0 2 4"},
        {"1", "105", "-10", "2", "deal 34887 bid 0 0 0 1 call 3 take 0 discard 5 10 11"},
        {"1", "106", "10", "3", "deal 7157 bid 1 0 0 0 call 3 take 0 discard 1 3 5"},
        {"1", "107", "10", "-1", "deal 64448 bid 0 0 1 0 call 0 take 0 discard 5 11 18"},
        {"1", "108", "11", "0", "deal 11499 bid 0 0 0 1 call 1 take 0 discard 0 8 13"},
        {"2", "102", "-21", "0", "deal 3240 bid 0 0 2 0 call 1 take 0 discard 2 10"},
        {"2", "103", "-20", "3", "deal 2571 bid 2 0 0 0 call 1 take 0 discard 3 4"},
        {"2", "104", "-20", "-1", "deal 27054 bid 0 2 0 0 call 0 take 2 discard 10 11"},
        {"2", "105", "-20", "3", "deal 20122 bid 0 0 2 0 call 1 take 2 discard 4 9"},
        {"2", "106", "20", "2", "deal 38008 bid 0 0 0 2 call 0 take 2 discard 8 9"},
        {"2", "107", "20", "0", "deal 49413 bid 0 2 0 0 call 2 take 2 discard 0 1"},
        {"2", "108", "21", "0", "deal 62601 bid 0 0 2 0 call 0 take 2 discard 1 3"},
        {"3", "102", "-31", "3", "deal 8172 bid 3 0 0 0 call 3 take 3 discard 1"},
        {"3", "103", "-30", "-1", "deal 16769 bid 0 3 0 0 call 2 take 1 discard 6"},
        {"3", "104", "-30", "3", "deal 39214 bid 0 0 3 0 call 1 take 2 discard 11"},
        {"3", "105", "-30", "-1", "deal 1214 bid 0 3 0 0 call 0 take 3 discard 8"},
        {"3", "106", "30", "-1", "deal 32407 bid 0 0 0 3 call 0 take 5 discard 0"},
        {"3", "107", "30", "3", "deal 6487 bid 0 3 0 0 call 3 take 0 discard 0"},
        {"3", "108", "31", "2", "deal 10983 bid 0 3 0 0 call 0 take 4 discard 2"},
        {"4", "102", "-51", "-1", "deal 47437 bid 0 0 4 0 take 4 discard 5"},
        {"4", "103", "-50", "-1", "deal 14060 bid 0 0 0 4 take 0 discard 0"},
        {"4", "104", "-50", "-1", "deal 58202 bid 0 0 4 0 take 1 discard 5"},
        {"4", "105", "-50", "-1", "deal 2505 bid 0 4 0 0 take 1 discard 3"},
        {"4", "106", "50", "-1", "deal 16515 bid 0 4 0 0 take 0 discard 0"},
        {"4", "107", "50", "-1", "deal 55238 bid 0 4 0 0 take 2 discard 18"},
        {"4", "108", "51", "-1", "deal 1010 bid 0 0 4 0 take 2 discard 9"},
        {"5", "103", "-80", "-1", "deal 21498 bid 0 5 0 0"},
        {"5", "104", "-80", "-1", "deal 27964 bid 0 0 0 5"},
        {"5", "105", "-80", "-1", "deal 21398 bid 0 0 0 5"},
        {"5", "106", "80", "-1", "deal 42572 bid 0 0 5 0"},
        {"5", "107", "80", "-1", "deal 45625 bid 0 5 0 0"},
    };

    // What happens, the thirds of the declarer's side, what the game, PAGAT and KING make for it, and the deal.
    static final String[][] PAGAT_MADE = {
        {"the declarer plays the pagat, and wins by it", "57", "-46", "25", "0",
            "deal 35944 bid 0 0 0 3 call 0 take 2 discard 1 lowest 23 play 37 28 lowest 6 play 43 lowest 11 play "
                + "51 lowest 4"},
        {"the declarer plays the pagat, and wins by it, alone", "54", "-80", "25", "0",
            "deal 26334 bid 5 0 0 0 lowest 21 play 46 lowest 11 play 48 lowest 14"},
        {"the other side plays the pagat, and wins by it", "79", "-38", "-25", "-10",
            "deal 43429 bid 0 3 0 0 call 2 take 0 discard 1 lowest 18 play 33 lowest 20 play 38 49 53 lowest 6"},
        {"the other side plays the pagat, and wins by it, alone", "7", "-80", "-25", "0",
            "deal 2216 bid 0 0 0 5 lowest 27 play 36 lowest 1 play 38 lowest 5 play 50 lowest 12"},
        {"the partner plays the pagat, and wins by it", "117", "34", "25", "0",
            "deal 51167 bid 0 0 0 3 call 3 take 2 discard 6 lowest 17 play 33 lowest 7 play 49 lowest 17 play 50 "
                + "lowest 4"},
    };

    static final String[][] PAGAT_LOST = {
        {"the declarer plays the pagat, and loses it to the others", "56", "-46", "-25", "0",
            "deal 2924 bid 3 0 0 0 call 3 take 2 discard 1 lowest 18 play 44 lowest 23 play 49 lowest 5"},
        {"the declarer plays the pagat, and loses it to the others, alone", "0", "-80", "-25", "0",
            "deal 42442 bid 5 0 0 0 lowest 37 play 34 lowest 5 play 45 lowest 4"},
        {"the declarer plays the pagat, and does not win by it, but its own side does", "150", "45", "-25", "0",
            "deal 29828 bid 3 0 0 0 call 1 take 3 discard 2 lowest 6 play 46 lowest 6 play 47 lowest 20 play 50 "
                + "lowest 13"},
        {"the other side plays the pagat, and loses it to the others", "119", "34", "25", "0",
            "deal 5896 bid 0 0 0 3 call 2 take 2 discard 1 lowest 37 play 33 lowest 10"},
        {"the other side plays the pagat, and loses it to the others, alone", "73", "-80", "25", "0",
            "deal 56911 bid 0 0 5 0 lowest 33 play 42 lowest 8 play 46 lowest 5"},
        {"the other side plays the pagat, and does not win by it, but its own side does", "52", "-47", "25", "0",
            "deal 8396 bid 0 0 3 0 call 0 take 5 discard 3 lowest 41 play 53 lowest 6"},
        {"the other side plays the pagat, and does not win by it, but its own side does, alone", "55", "-80", "25", "0",
            "deal 25594 bid 0 0 5 0 lowest 39 play 42 lowest 8"},
        {"the partner plays the pagat, and loses it to the others", "27", "-56", "-25", "0",
            "deal 19890 bid 3 0 0 0 call 0 take 5 discard 0 lowest 35 play 38 lowest 3 play 49 lowest 8"},
        {"the partner plays the pagat, and does not win by it, but its own side does", "93", "-34", "-25", "0",
            "deal 3123 bid 0 0 3 0 call 2 take 5 discard 2 lowest 18 play 35 lowest 23 play 41 lowest 5"},
    };

    static final String[][] PAGAT_ELSEWHERE = {
        {"the pagat is left in the talon", "14", "-80", "0", "0",
            "deal 69 bid 0 0 0 5 lowest 48"},
        {"the pagat is in the last trick but one", "64", "-80", "0", "0",
            "deal 32619 bid 0 0 0 5 lowest 39 play 33 lowest 8"},
    };

    static final String[][] PAGAT_ANNOUNCED_AND_MADE = {
        {"the declarer plays the pagat, and wins by it", "115", "23", "50", "0",
            "deal 29154 bid 0 2 0 0 call 3 take 0 discard 1 2 announce 0 lowest 19 play 35 lowest 5 play 42 lowest "
                + "9 play 52 lowest 12"},
        {"the declarer plays the pagat, and wins by it, alone", "51", "-68", "50", "0",
            "deal 60214 bid 4 0 0 0 take 3 discard 0 announce 0 lowest 30 play 37 lowest 4 play 48 lowest 12"},
        {"the partner plays the pagat, and wins by it", "119", "34", "50", "0",
            "deal 42344 bid 0 0 3 0 call 0 take 1 discard 8 announce 0 lowest 23 play 44 lowest 14 play 52 lowest "
                + "9"},
    };

    static final String[][] PAGAT_ANNOUNCED_ONLY = {
        {"the declarer plays the pagat, and loses it to the others", "31", "-44", "-50", "-10",
            "deal 8502 bid 2 0 0 0 call 3 take 1 discard 2 3 announce 0 lowest 34 play 38 lowest 3 play 51 lowest "
                + "9"},
        {"the declarer plays the pagat, and loses it to the others, alone", "16", "-80", "-50", "0",
            "deal 38202 bid 5 0 0 0 announce 0 lowest 37 play 36 lowest 4 play 45 lowest 5"},
        {"the declarer plays the pagat, and does not win by it, but its own side does", "148", "34", "-50", "-20",
            "deal 63946 bid 2 0 0 0 call 0 take 2 discard 0 2 announce 0 1 lowest 29 play 33 lowest 7 play 50 "
                + "lowest 10"},
        {"the other side plays the pagat, and loses it to the others", "158", "37", "-50", "0",
            "deal 11728 bid 0 0 0 2 call 2 take 2 discard 1 6 announce 0 lowest 37 play 51 lowest 10"},
        {"the other side plays the pagat, and loses it to the others, alone", "101", "-80", "-50", "0",
            "deal 49958 bid 0 0 5 0 announce 0 lowest 34 play 53 lowest 13"},
        {"the other side plays the pagat, and does not win by it, but its own side does", "131", "18", "-50", "0",
            "deal 18244 bid 0 0 1 0 call 2 take 0 discard 1 2 9 announce 0 lowest 32 play 47 50 lowest 14"},
        {"the other side plays the pagat, and does not win by it, but its own side does, alone",
            "40", "-80", "-50", "0",
            "deal 6287 bid 0 0 5 0 announce 0 lowest 33 play 45 lowest 4 play 50 lowest 9"},
        {"the other side plays the pagat, and wins by it", "83", "-37", "-50", "-10",
            "deal 41919 bid 0 0 3 0 call 3 take 1 discard 2 announce 0 lowest 21 play 46 lowest 7 play 48 lowest 5 "
                + "play 50 lowest 12"},
        {"the other side plays the pagat, and wins by it, alone", "42", "-80", "-50", "0",
            "deal 21602 bid 0 5 0 0 announce 0 lowest 8 play 46 40 lowest 1 play 45 lowest 36"},
        {"the partner plays the pagat, and loses it to the others", "108", "31", "-50", "-20",
            "deal 27485 bid 0 0 3 0 call 2 take 3 discard 1 announce 0 1 lowest 41 play 49 lowest 6"},
        {"the partner plays the pagat, and does not win by it, but its own side does", "144", "43", "-50", "0",
            "deal 607 bid 0 0 0 3 call 3 take 4 discard 1 announce 0 lowest 27 play 36 lowest 10 play 51 lowest 9"},
        {"the pagat is left in the talon", "26", "-80", "-50", "0",
            "deal 75 bid 5 0 0 0 announce 0 lowest 48"},
        {"the pagat is in the last trick but one", "45", "-80", "-50", "0",
            "deal 7224 bid 5 0 0 0 announce 0 lowest 33 play 36 lowest 14"},
    };

    static final String[][] KING_MADE = {
        {"the declarer's king wins", "52", "-47", "0", "10",
            "deal 6419 bid 3 0 0 0 call 2 take 5 discard 1 lowest 48"},
        {"the partner's king goes to the declarer", "165", "50", "0", "10",
            "deal 1724 bid 0 0 3 0 call 3 take 4 discard 3 lowest 48"},
        {"the partner's king wins", "142", "42", "0", "10",
            "deal 39305 bid 0 0 0 3 call 3 take 0 discard 2 lowest 48"},
        {"a king taken of the talon wins", "88", "-15", "0", "10",
            "deal 2688 bid 0 0 1 0 call 2 take 1 discard 1 10 12 lowest 15 play 38 lowest 11 play 41 lowest 1 play "
                + "44 lowest 18"},
    };

    static final String[][] KING_LOST = {
        {"the declarer's king goes to the other side", "54", "-47", "0", "-10",
            "deal 9087 bid 0 0 3 0 call 3 take 5 discard 3 lowest 48"},
        {"the partner's king goes to the other side", "98", "-32", "0", "-10",
            "deal 901 bid 0 3 0 0 call 2 take 5 discard 1 lowest 48"},
        {"a king taken of the talon goes to the other side", "31", "-54", "0", "-10",
            "deal 52530 bid 0 3 0 0 call 2 take 5 discard 6 lowest 48"},
    };

    static final String[][] KING_ELSEWHERE = {
        {"another king is in the last trick", "114", "33", "0", "0",
            "deal 898 bid 0 0 0 3 call 2 take 3 discard 5 lowest 48"},
        {"the called king is left in the talon", "27", "-56", "0", "0",
            "deal 966 bid 3 0 0 0 call 1 take 3 discard 4 lowest 48"},
        {"the called king is in the last trick but one", "102", "-31", "0", "0",
            "deal 7571 bid 0 0 3 0 call 1 take 0 discard 5 lowest 48"},
    };

    static final String[][] KING_ANNOUNCED_AND_MADE = {
        {"the declarer's king wins", "71", "-21", "0", "20",
            "deal 35329 bid 0 0 1 0 call 3 take 1 discard 1 4 8 announce 1 lowest 48"},
        {"the partner's king goes to the declarer", "53", "-47", "0", "20",
            "deal 50293 bid 0 3 0 0 call 2 take 5 discard 0 announce 1 lowest 48"},
        {"the partner's king wins", "113", "32", "0", "20",
            "deal 63145 bid 0 3 0 0 call 0 take 4 discard 3 announce 1 lowest 40 play 53 lowest 7"},
        {"a king taken of the talon wins", "89", "-35", "-50", "20",
            "deal 10790 bid 0 0 3 0 call 1 take 4 discard 0 announce 0 1 lowest 7 play 42 lowest 7 play 53 lowest "
                + "32"},
    };

    static final String[][] KING_ANNOUNCED_ONLY = {
        {"another king is in the last trick", "173", "52", "0", "-20",
            "deal 1053 bid 0 3 0 0 call 1 take 3 discard 8 announce 1 lowest 48"},
        {"the declarer's king goes to the other side", "21", "-58", "0", "-20",
            "deal 7273 bid 0 3 0 0 call 1 take 4 discard 2 announce 1 lowest 48"},
        {"the partner's king goes to the other side", "91", "-34", "0", "-20",
            "deal 4169 bid 3 0 0 0 call 3 take 2 discard 3 announce 1 lowest 48"},
        {"the called king is left in the talon", "21", "-58", "0", "-20",
            "deal 40838 bid 3 0 0 0 call 2 take 4 discard 0 announce 1 lowest 48"},
        {"a king taken of the talon goes to the other side", "59", "-45", "-50", "-20",
            "deal 43144 bid 3 0 0 0 call 1 take 1 discard 6 announce 0 1 lowest 48"},
        {"the called king is in the last trick but one", "30", "-55", "0", "-20",
            "deal 5045 bid 3 0 0 0 call 2 take 4 discard 3 announce 1 lowest 48"},
    };

    static final String[][] BOTH_BIRDS = {
        {"PAGAT announced, KING announced: the declarer plays the pagat and loses", "49", "-38", "-50", "-20",
            "deal 53848 bid 2 0 0 0 call 1 take 2 discard 0 4 announce 0 1 lowest 25 play 38 lowest 13 play 48 50 "
                + "lowest 7"},
        {"PAGAT announced, KING announced: the other side plays the pagat and loses", "171", "42", "-50", "20",
            "deal 50165 bid 2 0 0 0 call 3 take 2 discard 2 5 announce 0 1 lowest 35 play 43 lowest 7 play 45 "
                + "lowest 4"},
        {"PAGAT announced, KING announced: the other side plays the pagat and loses", "102", "-31", "-50", "-20",
            "deal 18451 bid 0 3 0 0 call 3 take 2 discard 0 announce 0 1 lowest 35 play 37 lowest 7 play 38 lowest "
                + "4"},
        {"PAGAT announced, KING announced: the declarer wins by the pagat", "150", "35", "50", "20",
            "deal 58963 bid 2 0 0 0 call 2 take 0 discard 1 4 announce 0 1 lowest 28 play 40 lowest 4 play 43 "
                + "lowest 5 play 49 53 lowest 7"},
        {"PAGAT announced, KING announced: the other side wins by the pagat", "120", "35", "-50", "-20",
            "deal 34237 bid 0 3 0 0 call 3 take 0 discard 4 announce 0 1 lowest 25 play 42 lowest 4 play 43 lowest "
                + "8 play 47 51 lowest 7"},
        {"PAGAT announced, KING not announced: the declarer plays the pagat and loses", "31", "-44", "-50", "-10",
            "deal 8502 bid 2 0 0 0 call 3 take 1 discard 2 3 announce 0 lowest 34 play 38 lowest 3 play 51 lowest "
                + "9"},
        {"PAGAT announced, KING not announced: the other side plays the pagat and loses", "143", "22", "-50", "10",
            "deal 16083 bid 0 1 0 0 call 1 take 0 discard 4 9 14 announce 0 lowest 27 play 49 lowest 11 play 50 52 "
                + "lowest 7"},
        {"PAGAT announced, KING not announced: the other side plays the pagat and loses", "88", "-35", "-50", "-10",
            "deal 1272 bid 0 0 3 0 call 2 take 1 discard 9 announce 0 lowest 23 play 33 lowest 13 play 52 lowest "
                + "10"},
        {"PAGAT announced, KING not announced: the declarer wins by the pagat", "114", "23", "50", "10",
            "deal 32313 bid 0 0 2 0 call 0 take 1 discard 0 4 announce 0 lowest 7 play 35 lowest 15 play 46 47 "
                + "lowest 6 play 53 lowest 16"},
        {"PAGAT announced, KING not announced: the other side wins by the pagat", "83", "-37", "-50", "-10",
            "deal 41919 bid 0 0 3 0 call 3 take 1 discard 2 announce 0 lowest 21 play 46 lowest 7 play 48 lowest 5 "
                + "play 50 lowest 12"},
        {"PAGAT not announced, KING announced: the declarer plays the pagat and loses", "107", "30", "-25", "-20",
            "deal 53602 bid 3 0 0 0 call 3 take 3 discard 0 announce 1 lowest 26 play 44 lowest 10 play 48 lowest "
                + "10"},
        {"PAGAT not announced, KING announced: the other side plays the pagat and loses", "157", "47", "25", "20",
            "deal 942 bid 0 3 0 0 call 3 take 5 discard 12 announce 1 lowest 15 play 40 lowest 7 play 42 lowest 15 "
                + "play 48 lowest 8"},
        {"PAGAT not announced, KING announced: the other side plays the pagat and loses", "87", "-36", "25", "-20",
            "deal 55789 bid 0 0 3 0 call 3 take 3 discard 1 announce 1 lowest 27 play 49 lowest 5 play 51 lowest "
                + "14"},
        {"PAGAT not announced, KING announced: the declarer wins by the pagat", "122", "25", "25", "20",
            "deal 58989 bid 2 0 0 0 call 2 take 1 discard 0 3 announce 1 lowest 23 play 42 lowest 7 play 46 lowest "
                + "7 play 52 53 lowest 7"},
        {"PAGAT not announced, KING announced: the other side wins by the pagat", "111", "22", "-25", "-20",
            "deal 14066 bid 0 0 2 0 call 3 take 0 discard 1 3 announce 1 lowest 23 play 48 lowest 11 play 52 "
                + "lowest 12"},
        {"PAGAT not announced, KING not announced: the declarer plays the pagat and loses", "94", "-33", "-25", "-10",
            "deal 2788 bid 0 3 0 0 call 3 take 1 discard 1 lowest 11 play 35 lowest 25 play 49 lowest 10"},
        {"PAGAT not announced, KING not announced: the other side plays the pagat and loses", "116", "33", "25", "10",
            "deal 8913 bid 0 0 3 0 call 2 take 5 discard 4 lowest 35 play 39 lowest 1 play 48 lowest 2 play 52 "
                + "lowest 7"},
        {"PAGAT not announced, KING not announced: the other side plays the pagat and loses", "56", "-46", "25", "-10",
            "deal 58488 bid 0 0 3 0 call 3 take 3 discard 2 lowest 21 play 35 lowest 16 play 42 lowest 9"},
        {"PAGAT not announced, KING not announced: the declarer wins by the pagat", "148", "34", "25", "10",
            "deal 10862 bid 2 0 0 0 call 2 take 2 discard 4 8 lowest 11 play 45 lowest 14 play 48 lowest 12 play "
                + "52 53 lowest 7"},
        {"PAGAT not announced, KING not announced: the other side wins by the pagat", "79", "-38", "-25", "-10",
            "deal 43429 bid 0 3 0 0 call 2 take 0 discard 1 lowest 18 play 33 lowest 20 play 38 49 53 lowest 6"},
    };
}
