/** Section 1 of 'Terms' at its edges: the text that tells the loom, with the first fault (promises 2 to 4). */
public final class TextEdgesTest extends Edge {
    private static final String EIGHT = "l1;" + "c0 0 0 0 0;".repeat(8);
    private static final String TWO = "l1;c0 0 0 0 0;c0 0 0 0 0;";

    public static void main(String[] args) {
        run(TextEdgesTest.class);
    }

    /** The text has this FAULT, by its number, at this place. */
    private static void fault(String text, int number, int place) {
        CardBand x = new CardBand();
        due("loom() of \"" + text + "\"", loomOf(x, text), -10 - number);
        due("fault() of \"" + text + "\"", x.fault(), place);
        due("cards behind \"" + text + "\"", x.told(1), 0);
    }

    private static CardBand good(String text, int cards) {
        CardBand x = new CardBand();
        due("loom() of \"" + text + "\"", loomOf(x, text), cards);
        due("fault() of \"" + text + "\"", x.fault(), NONE);
        return x;
    }

    // ---- the text

    @Says({"THE LOOM is told in a text (240 letters at most), letter by letter: clauses:"})
    static void promise03_terms1_text240Letters() {
        String blanks = " ".repeat(240 - 14);
        CardBand x = good("l1;c0 0 0 0 " + blanks + "0;", 1);
        due("a whole text of 240 letters", x.told(1), 1);
        fault("l1;c0 0 0 0 " + blanks + "0 ", 1, 240);
    }

    @Says({"(240 letters at most)"})
    static void promise03_terms1_the241stLetterIsNoneOfTheText() {
        fault("l1;c0 0 0 0 " + " ".repeat(241 - 14) + "0;", 1, 240);
        good("l1;" + " ".repeat(237) + "x", 0);
    }

    @Says({"What has a number has it from 0 on, as it comes."})
    static void promise03_terms0_numbersFrom0OnAsTheyCome() {
        CardBand x = good("l3;c0 0 0 0 0;c1 1 1 1 0;k2;c2 2 2 2 0;k5;", 3);
        for (int c = 0; c < 3; c++) {
            due("colour of card " + c, x.card(c, 0), c);
        }
        due("card(3, 0)", x.card(3, 0), UNKNOWN);
        due("pack(0)", x.pack(0), 2);
        due("pack(1)", x.pack(1), 5);
        due("pack(2)", x.pack(2), UNKNOWN);
        due("pack of card 0", x.card(0, 9), 1);
        due("pack of card 1", x.card(1, 9), 0);
    }

    // ---- 'l' N ';'

    @Says({"'l' N ';' (COLOURS 0 .. N less 1, N 1 .. 8"})
    static void promise03_terms1_l_n1To8() {
        fault("l0;", 2, 1);
        due("l1;", good("l1;", 0).told(0), 1);
        due("l8;", good("l8;", 0).told(0), 8);
        fault("l9;", 2, 1);
        fault("l10;", 2, 1);
        fault("l999;", 2, 1);
    }

    @Says({"COLOURS 0 .. N less 1"})
    static void promise03_terms1_l_coloursTo1LessThanN() {
        for (int n = 1; n <= 8; n++) {
            CardBand x = good("l" + n + ";", 0);
            due("the last colour of " + n, x.yarn(n - 1), 500);
            due("colour " + n + " of " + n, x.yarn(n), UNKNOWN);
        }
    }

    @Says({"YARN of each is 500"})
    static void promise03_terms1_l_yarnOfEachIs500() {
        CardBand x = good("l8;", 0);
        for (int k = 0; k < 8; k++) {
            due("yarn(" + k + ")", x.yarn(k), 500);
        }
        due("all yarn", x.told(10), 4000);
        loomOf(x, "l8;y3 1;");
        loomOf(x, "l8;");
        due("yarn told in an earlier text", x.yarn(3), 500);
    }

    @Says({"first, once)"})
    static void promise03_terms1_l_first() {
        fault("c0 0 0 0 0;l1;", 1, 0);
        fault("k1;l1;", 1, 0);
        fault("y0 1;l1;", 1, 0);
        good("  l1;", 0);
    }

    @Says({"first, once)"})
    static void promise03_terms1_l_once() {
        fault("l1;l1;", 3, 3);
        fault("l2;c0 1 0 1 0;k1;y0 1;l2;", 3, 22);
    }

    // ---- 'c' A B C D S ';'

    @Says({"'c' A B C D S ';' (8 CARDS at most"})
    static void promise03_terms1_c_8CardsAtMost() {
        good(EIGHT, 8);
        fault(EIGHT + "c0 0 0 0 0;", 3, 91);
        fault(EIGHT + " c", 3, 92);
    }

    @Says({"COLOURS of its HOLES 0 .. 3, in turn"})
    static void promise03_terms1_c_coloursOfItsHolesInTurn() {
        CardBand x = good("l4;c3 1 0 2 1;", 1);
        int[] want = {3, 1, 0, 2, 1};
        for (int what = 0; what < 5; what++) {
            due("card(0, " + what + ")", x.card(0, what), want[what]);
        }
    }

    @Says({"a COLOUR that there is not"})
    static void promise03_terms1_c_theLastColourAndOneMoreAtEachHole() {
        good("l3;c2 2 2 2 0;", 1);
        fault("l3;c3 2 2 2 0;", 2, 4);
        fault("l3;c2 3 2 2 0;", 2, 6);
        fault("l3;c2 2 3 2 0;", 2, 8);
        fault("l3;c2 2 2 3 0;", 2, 10);
        good("l8;c7 7 7 7 0;", 1);
        fault("l8;c7 7 7 8 0;", 2, 10);
        good("l1;c0 0 0 0 0;", 1);
        fault("l1;c0 0 0 1 0;", 2, 10);
    }

    @Says({"S 0 it is threaded one way, 1 the other way"})
    static void promise03_terms1_c_s0And1() {
        due("S 0", good("l1;c0 0 0 0 0;", 1).card(0, 4), 0);
        due("S 1", good("l1;c0 0 0 0 1;", 1).card(0, 4), 1);
        fault("l1;c0 0 0 0 2;", 2, 12);
        fault("l1;c0 0 0 0 10;", 2, 12);
        // a COLOUR 1 that there is not is no bound of S
        fault("l1;c0 0 0 1 1;", 2, 10);
    }

    // ---- 'k' Q ';'

    @Says({"'k' Q ';' (4 PACKS at most"})
    static void promise03_terms1_k_4PacksAtMost() {
        due("four", good(EIGHT + "k1;k2;k4;k8;", 8).told(2), 4);
        fault(EIGHT + "k1;k2;k4;k8;k16;", 3, 103);
        fault(EIGHT + "k1;k2;k4;k8;  k", 3, 105);
    }

    @Says({"1 .. 255"})
    static void promise03_terms1_k_q1To255() {
        fault(EIGHT + "k0;", 2, 92);
        due("k1", good(EIGHT + "k1;", 8).pack(0), 1);
        due("k255", good(EIGHT + "k255;", 8).pack(0), 255);
        fault(EIGHT + "k256;", 2, 92);
        fault(EIGHT + "k999;", 2, 92);
    }

    @Says({"a SET of CARDS told ahead", "a Q with bits of CARDS that were not told (at its first)"})
    static void promise03_terms1_k_cardsToldAhead() {
        good(TWO + "k3;", 2);
        fault(TWO + "k4;", 2, 26);
        fault(TWO + "k7;", 2, 26);
        fault("l1;k1;", 2, 4);
        good("l1;c0 0 0 0 0;k1;c0 0 0 0 0;k2;", 2);
        fault("l1;c0 0 0 0 0;k2;c0 0 0 0 0;", 2, 15);
        fault("l1;" + "c0 0 0 0 0;".repeat(7) + "k128;", 2, 81);
        good(EIGHT + "k128;", 8);
    }

    @Says({"none of them in an earlier PACK", "4 a Q with a CARD that is in a PACK already (at it)"})
    static void promise03_terms1_k_noneInAnEarlierPack() {
        good(TWO + "k1;k2;", 2);
        fault(TWO + "k1;k1;", 4, 29);
        fault(TWO + "k1;k3;", 4, 29);
        fault(TWO + "k2;k 3;", 4, 30);
        fault(EIGHT + "k1;k128;k2;k255;", 4, 103);
        // the CARDS of the first of three
        fault(EIGHT + "k1;k2;k1;", 4, 98);
    }

    // ---- 'y' K L ';'

    @Says({"'y' K L ';' (YARN of COLOUR K is L, 0 .. 999)"})
    static void promise03_terms1_y_l0To999() {
        due("0", good("l2;y1 0;", 0).yarn(1), 0);
        due("999", good("l2;y1 999;", 0).yarn(1), 999);
        due("of another colour", good("l2;y1 999;", 0).yarn(0), 500);
        fault("l2;y1 1000;", 2, 6);
    }

    @Says({"a COLOUR that there is not"})
    static void promise03_terms1_y_colourThatThereIsNot() {
        good("l2;y1 5;", 0);
        fault("l2;y2 5;", 2, 4);
        good("l8;y7 5;", 0);
        fault("l8;y8 5;", 2, 4);
        fault("l1;y1 5;", 2, 4);
    }

    @Says({"YARN of COLOUR K is L"})
    static void promise03_terms1_y_theLatestIsIt() {
        CardBand x = good("l2;y0 3;y1 4;y0 8;", 0);
        due("yarn(0)", x.yarn(0), 8);
        due("yarn(1)", x.yarn(1), 4);
        due("many", good("l1;" + "y0 1;".repeat(40) + "y0 999;", 0).yarn(0), 999);
    }

    // ---- numbers, words, blanks

    @Says({"NUMBERS have one to three figures"})
    static void promise03_terms1_numbersOneToThreeFigures() {
        due("one", good("l8;", 0).told(0), 8);
        due("two", good("l08;", 0).told(0), 8);
        due("three", good("l008;", 0).told(0), 8);
        fault("l0008;", 2, 1);
        CardBand x = good("l02;c001 01 1 001 001;k001;y001 099;", 1);
        due("yarn", x.yarn(1), 99);
        due("pack", x.pack(0), 1);
        due("S", x.card(0, 4), 1);
    }

    @Says({"2 a NUMBER of four figures or more, or out of its bounds"})
    static void promise03_terms1_numbersOfFourFiguresOrMore() {
        fault("l0001;", 2, 1);
        fault("l1;c0000 0 0 0 0;", 2, 4);
        fault("l1;c0 0000 0 0 0;", 2, 6);
        fault("l1;c0 0 0000 0 0;", 2, 8);
        fault("l1;c0 0 0 0000 0;", 2, 10);
        fault("l1;c0 0 0 0 0000;", 2, 12);
        fault("l1;c0 0 0 0 0;k0001;", 2, 15);
        fault("l1;y0000 0;", 2, 4);
        fault("l1;y0 0999;", 2, 6);
    }

    @Says({"a NUMBER of four figures or more"})
    static void promise03_terms1_numbersThatGoRoundPastAnInt() {
        fault("l4294967297;", 2, 1);
        fault("l2147483649;", 2, 1);
        fault("l18446744073709551617;", 2, 1);
        fault("l1;y0 4294967296;", 2, 6);
        fault("l" + "0".repeat(200) + "1;", 2, 1);
        fault("l" + "1".repeat(239), 2, 1);
    }

    @Says({"(at its first)"})
    static void promise03_terms1_numbersAtTheirFirstFigure() {
        fault("l   9;", 2, 4);
        fault("l 12345", 2, 2);
        fault("l1;y0   1000;", 2, 8);
        fault("l1;y0 000000", 2, 6);
        fault("l1;c0 0 0  03 0;", 2, 11);
    }

    @Says({"a word is one letter"})
    static void promise03_terms1_aWordIsOneLetter() {
        fault("ll1;", 1, 1);
        fault("l1;cc0 0 0 0 0;", 1, 4);
        fault("l1;c0 0 0 0 0;kk1;", 1, 15);
        fault("l1;yy0 1;", 1, 4);
        fault("l1;card", 1, 4);
    }

    @Says({"blanks (32) may stand anywhere but within NUMBERS"})
    static void promise03_terms1_blanksAnywhere() {
        CardBand x = good("  l  2  ;  c  0  1  0  1  1  ;  k  1  ;  y  1  7  ;  ", 1);
        due("colours", x.told(0), 2);
        due("pack", x.pack(0), 1);
        due("yarn", x.yarn(1), 7);
        due("without any that may be away", good("l2;c0 1 0 1 1;k1;y1 7;", 1).yarn(1), 7);
    }

    @Says({"but within NUMBERS"})
    static void promise03_terms1_noBlanksWithinNumbers() {
        fault("l1;y0 1 2;", 1, 8);
        fault("l1 0;", 1, 3);
        fault("l1;c0 0 0 0 0;k 1 0;", 1, 18);
        fault("l8;y0 1 2", 1, 8);
    }

    @Says({"blanks (32)"})
    static void promise03_terms1_blanksAre32Alone() {
        fault("\tl1;", 1, 0);
        fault("l\t1;", 1, 1);
        fault("l1;\n", 1, 3);
        fault("l1\r;", 1, 2);
        fault("l1;y0" + (char) 160 + "1;", 1, 5);
        fault("l1;" + (char) 0, 1, 3);
        fault("l1;" + (char) 31, 1, 3);
        fault("l1;!", 1, 3);
    }

    @Says({"two NUMBERS side by side need one."})
    static void promise03_terms1_twoNumbersSideBySideNeedABlank() {
        fault("l2;c01010;", 2, 4);
        fault("l1;c0 0 0 00;", 1, 12);
        fault("l8;y05;", 1, 6);
        good("l8;y0 5;", 0);
        good("l8;y0        5;", 0);
    }

    // ---- faults

    @Says({"FAULTS, at the first letter that has one"})
    static void promise03_terms1_faultsAtTheFirstLetterThatHasOne() {
        fault("l9x", 2, 1);
        fault("l1;l1;x", 3, 3);
        fault(TWO + "k1;k1;x", 4, 29);
        fault("l1;c1 0 0 0 9;k9;", 2, 4);
        fault("l1;x;l0;", 1, 3);
        fault("l2;y2 1000;", 2, 4);
        fault("l2;c0 0 0 0 0x", 1, 13);
        fault("l1;c0 0 0 0 0;k2;k1;k1;", 2, 15);
        // what is told in a clause without its end can have no FAULT behind it
        fault("l1;c0 0 0 0 0;k1k1;", 1, 16);
    }

    @Says({"(the end at the text's length)"})
    static void promise03_terms1_faultsTheEndAtTheTextsLength() {
        fault("l", 1, 1);
        fault("l  ", 1, 3);
        fault("l1", 1, 2);
        fault("l1 ", 1, 3);
        fault("l1;c", 1, 4);
        fault("l1;c0", 1, 5);
        fault("l1;c0 0 0 0 ", 1, 12);
        fault("l1;c0 0 0 0 0", 1, 13);
        fault("l1;c0 0 0 0 0;k", 1, 15);
        fault("l1;c0 0 0 0 0;k1", 1, 16);
        fault("l1;y", 1, 4);
        fault("l1;y0", 1, 5);
        fault("l1;y0 1", 1, 7);
        good("l1; ", 0);
    }

    @Says({"of these the least"})
    static void promise03_terms1_faultsOfLikePlacesTheLeast() {
        // a second 'l' where a ';' is due; a pack's CARD told twice and one that was not told
        fault("l1 l1;", 1, 3);
        fault("l1l1;", 1, 2);
        fault(EIGHT + "y0 c", 1, 94);
        fault(TWO + "k1;k5;", 2, 29);
        fault(TWO + "k1;k257;", 2, 29);
        fault(TWO + "k1;k0001;", 2, 29);
        fault("l3 4444;", 1, 3);
        fault("l3 9;", 1, 3);
        fault(EIGHT + "k1;k2;k4;k8;kk", 3, 103);
    }

    @Says({"1 it cannot stand there (a letter that is no word"})
    static void promise03_terms1_fault1_aLetterThatIsNoWord() {
        for (int letter = 0; letter < 256; letter++) {
            if (letter != 32 && letter != 'l' && letter != 'c' && letter != 'k' && letter != 'y') {
                fault("l1;" + (char) letter, 1, 3);
                fault("" + (char) letter, 1, 0);
            }
        }
        fault("L1;", 1, 0);
        fault("l1;C0 0 0 0 0;", 1, 3);
        fault("l1;;", 1, 3);
        fault("l1;1;", 1, 3);
    }

    @Says({"another word first than 'l'"})
    static void promise03_terms1_fault1_anotherWordFirst() {
        fault("c", 1, 0);
        fault("k", 1, 0);
        fault("y", 1, 0);
        fault("   y0 1;", 1, 3);
    }

    @Says({"1 it cannot stand there"})
    static void promise03_terms1_fault1_whatStandsWhereANumberIsDue() {
        fault("l;", 1, 1);
        fault("lx", 1, 1);
        fault("l-1;", 1, 1);
        fault("l+1;", 1, 1);
        fault("l1;c;", 1, 4);
        fault("l1;c0 0 0 0;", 1, 11);
        fault("l1;y0;", 1, 5);
        fault("l1;c0 0 0 0 0;k;", 1, 15);
        // the letters beside the figures
        fault("l/", 1, 1);
        fault("l:", 1, 1);
    }

    @Says({"1 it cannot stand there"})
    static void promise03_terms1_fault1_whatStandsWhereTheEndOfAClauseIsDue() {
        fault("l1:", 1, 2);
        fault("l1 2;", 1, 3);
        fault("l1;c0 0 0 0 0 0;", 1, 14);
        fault("l1;y0 1 1;", 1, 8);
        fault("l1;c0 0 0 0 0;k1 1;", 1, 17);
        fault("l1,", 1, 2);
    }

    @Says({"3 'l' again, a ninth 'c', a fifth 'k' (at it)"})
    static void promise03_terms1_fault3_atTheWord() {
        fault("l1;  l", 3, 5);
        fault("l1;l9;", 3, 3);
        fault(EIGHT + "  c9", 3, 93);
        fault(EIGHT + "k1;k2;k4;k8; k0;", 3, 104);
        // as many as can be are no FAULT, and any number of yarns
        good(EIGHT + "k1;k2;k4;k8;" + "y0 1;".repeat(27), 8);
    }

    @Says({"An empty text (or of blanks alone): no LOOM."})
    static void promise03_terms1_anEmptyTextNoLoom() {
        for (String text : new String[] {"", " ", " ".repeat(240)}) {
            CardBand x = made(Edge::rich);
            x.loom();
            loomOf(x, FOUR);
            due("loom() of " + text.length() + " blanks", loomOf(x, text), 0);
            due("fault()", x.fault(), NONE);
            for (int what = 0; what < 14; what++) {
                due("told(" + what + ")", x.told(what), what == 8 || what == 9 ? NONE : 0);
            }
            due("card(0, 0)", x.card(0, 0), UNKNOWN);
            due("pack(0)", x.pack(0), UNKNOWN);
            due("yarn(0)", x.yarn(0), UNKNOWN);
            due("pick(0, 1)", x.pick(0, 1), NOT);
            due("drift(1)", x.drift(1), NOT);
            due("lasts(0, 0)", x.lasts(0, 0), NOT);
            due("untwist(0)", x.untwist(0), NOT);
            due("home(0)", x.home(0), NOT);
            due("repeat()", x.repeat(), NOT);
        }
    }

    @Says({"no LOOM."})
    static void promise03_terms1_aTextOfColoursAloneIsALoom() {
        CardBand x = good("l1;", 0);
        due("repeat()", x.repeat(), 1);
        due("pick(0, 1)", x.pick(0, 1), 1);
        due("untwist(0)", x.untwist(0), 0);
        due("home(0)", x.home(0), 0);
        due("lasts(0, 0)", x.lasts(0, 0), 99);
        due("together(0, 0, 0)", x.together(0, 0, 0), 0);
        due("drift(1)", x.drift(1), 2);
    }
}
