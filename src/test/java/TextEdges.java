/**
 * The boundary cases that the document names for a new object, the tape and the texts (promises 1 to 5, and
 * how 33 and 35 read theirs): each has a test of its own. EdgesTest runs them.
 */
final class TextEdges {
    private static final Desk D = EdgesTest.DESK;
    private static final String SIX_KINDS = "kind a 1 1;kind b 1 1;kind c 1 1;kind d 1 1;kind e 1 1;kind f 1 1;";
    private static final String EIGHT_SOULS = "soul s;soul t;soul u;soul v;soul w;soul x;soul y;soul z;";
    // 36 bytes
    private static final String SMALL = "kind k 2 2;kind l 1 1;soul s;soul t;";
    private static final String[] RESERVED = {
        "kind", "meets", "soul", "only", "wish", "debt", "grows", "as", "day", "clerk", "or", "and", "not", "waits",
        "owes", "debts", "dues", "births", "left", "place",
    };

    private TextEdges() {
    }

    private static void good(String text, int lines) {
        SoulOffice x = new SoulOffice();
        D.due("office of '" + text.trim() + "'", Desk.office(x, text), lines);
        D.due("fault of '" + text.trim() + "'", x.fault(), 0);
    }

    private static void bad(String text, int place, int fault) {
        SoulOffice x = new SoulOffice();
        D.due("office of '" + text.trim() + "'", Desk.office(x, text), -1 - place);
        D.due("fault of '" + text.trim() + "'", x.fault(), fault);
    }

    private static void goodBook(String text) {
        SoulOffice x = Desk.with(SMALL);
        D.due("daybook of '" + text.trim() + "'", Desk.book(x, 0, text), -1);
        D.due("fault of '" + text.trim() + "'", x.fault(), 0);
    }

    private static void badBook(String text, int place, int fault) {
        SoulOffice x = Desk.with(SMALL);
        D.due("daybook of '" + text.trim() + "'", Desk.book(x, 0, text), -2 - place);
        D.due("fault of '" + text.trim() + "'", x.fault(), fault);
    }

    private static void goodSentence(String text, int ones) {
        SoulOffice x = Desk.with(SMALL);
        D.due("sentence of '" + text.trim() + "'", Desk.sentence(x, text), ones);
        D.due("fault of '" + text.trim() + "'", x.fault(), 0);
    }

    private static void badSentence(String text, int place, int fault) {
        SoulOffice x = Desk.with(SMALL);
        D.due("sentence of '" + text.trim() + "'", Desk.sentence(x, text), -1 - place);
        D.due("fault of '" + text.trim() + "'", x.fault(), fault);
    }

    // ---- 1: a new object ----

    private static void p01AnEmptyOffice() {
        SoulOffice x = new SoulOffice();
        D.due("KINDS", x.count(0), 0);
        D.due("SOULS", x.count(1), 0);
        D.due("grows", x.count(2), 0);
        for (int what = 0; what <= 6; what++) {
            D.due("now(" + what + ")", x.now(what), 0);
        }
        D.due("no SENTENCE", x.said(-1), -1);
        D.due("nothing can be undone", x.undo(), -1);
    }

    private static void p01AnEmptyTape() {
        SoulOffice x = new SoulOffice();
        D.due("bytes", x.count(3), 0);
        D.due("one byte", x.end(1), false);
    }

    private static void p01NothingWasToldYet() {
        SoulOffice x = new SoulOffice();
        D.due("fault()", x.fault(), 0);
        D.due("gives(0)", x.gives(0), -1);
        D.due("first(0)", x.first(0), -1);
        D.due("booked(0)", x.booked(0), -1);
        D.due("restore(0)", x.restore(0), false);
        D.due("restore(1)", x.restore(1), false);
    }

    // ---- 2: feed ----

    private static void p02TwentyBytesEach() {
        SoulOffice x = new SoulOffice();
        D.due("how many it has", x.feed(0, 0, 0, 0, 0), 20);
        D.due("how many it has", x.feed(-1, -1, -1, -1, -1), 40);
        D.due("bytes", x.count(3), 40);
    }

    private static void p02OfEachNumberTheHighestFirst() {
        SoulOffice x = new SoulOffice();
        // "soul", " abc", "d  ;", " gro", "ws 7", and ";" ahead
        x.feed(0x736f756c, 0x20616263, 0x6420203b, 0x2067726f, 0x77732037);
        x.feed(0x3b202020, 0x20202020, 0x20202020, 0x20202020, 0x20202020);
        D.due("office()", x.office(), 2);
        D.due("grows", x.count(2), 7);
    }

    private static void p02NumbersBelow0() {
        SoulOffice x = new SoulOffice();
        // 255 ahead, then "day": no TOKEN, at 0; and behind a blank, at 1
        x.feed(0xff646179, 0, 0, 0, 0);
        D.due("at 0", x.office(), -1);
        x.feed(0x20806179, 0, 0, 0, 0);
        D.due("at 1", x.office(), -2);
        x.feed(Integer.MIN_VALUE, 0, 0, 0, 0);
        x.end(1);
        x.were(0, 1);
        D.due("the tape is empty", x.count(3), 0);
    }

    private static void p02Behind() {
        SoulOffice x = new SoulOffice();
        x.feed(0x736f756c, 0, 0, 0, 0);
        x.end(4);
        D.due("behind those that are left", x.feed(0x20613b20, 0x20202020, 0x20202020, 0x20202020, 0x20202020), 24);
        D.due("office()", x.office(), 1);
    }

    private static void p02Full() {
        SoulOffice x = new SoulOffice();
        for (int i = 1; i <= 46; i++) {
            x.feed(0, 0, 0, 0, 0);
        }
        D.due("940 themselves", x.feed(0, 0, 0, 0, 0), 940);
    }

    private static void p02AboveFullNoneCome() {
        SoulOffice x = new SoulOffice();
        for (int i = 1; i <= 47; i++) {
            x.feed(0, 0, 0, 0, 0);
        }
        D.due("960", x.feed(1, 1, 1, 1, 1), -1);
        D.due("none come", x.count(3), 940);
        x.end(921);
        D.due("941", x.feed(1, 1, 1, 1, 1), -1);
        D.due("none come", x.count(3), 921);
        x.end(920);
        D.due("940 again", x.feed(1, 1, 1, 1, 1), 940);
    }

    // ---- 3: end ----

    private static void p03AsManyAsItHas() {
        SoulOffice x = new SoulOffice();
        x.feed(0, 0, 0, 0, 0);
        D.due("end(20)", x.end(20), true);
        D.due("bytes", x.count(3), 20);
    }

    private static void p03TheFirstNAlone() {
        SoulOffice x = new SoulOffice();
        x.feed(0x67726f77, 0x7320353b, 0x3b3b3b3b, 0, 0);
        D.due("end(8)", x.end(8), true);
        D.due("bytes", x.count(3), 8);
        D.due("the first eight", x.office(), 1);
        D.due("grows", x.count(2), 5);
    }

    private static void p03WithinAToken() {
        SoulOffice x = Desk.with(SMALL);
        Desk.text(x, "soul abcdefghij;");
        D.due("a WORD of eight and more is cut", x.end(7), true);
        D.due("its LINE has no end", x.office(), -8);
        Desk.text(x, "debts<9999");
        D.due("a NUMBER of four is cut", x.end(9), true);
        D.due("sentence()", x.sentence(), 1);
        Desk.text(x, "clerk 60;day 60;");
        D.due("a WORD is cut", x.end(4), true);
        D.due("daybook(0)", x.daybook(0), -2);
        D.due("a NAME not told", x.fault(), 3);
    }

    private static void p03None() {
        SoulOffice x = new SoulOffice();
        D.due("end(0) of none", x.end(0), true);
        x.feed(1, 2, 3, 4, 5);
        D.due("end(0)", x.end(0), true);
        D.due("bytes", x.count(3), 0);
    }

    private static void p03NotSoMany() {
        SoulOffice x = new SoulOffice();
        D.due("end(1) of none", x.end(1), false);
        x.feed(0, 0, 0, 0, 0);
        D.due("end(21)", x.end(21), false);
        D.due("end(940)", x.end(940), false);
        D.due("the greatest", x.end(Integer.MAX_VALUE), false);
        D.due("all stay", x.count(3), 20);
    }

    private static void p03Below0() {
        SoulOffice x = new SoulOffice();
        x.feed(0, 0, 0, 0, 0);
        D.due("end(-1)", x.end(-1), false);
        D.due("the least", x.end(Integer.MIN_VALUE), false);
        D.due("all stay", x.count(3), 20);
    }

    // ---- TOKENS ----

    private static void p04BlanksOrNot() {
        good("kind a 1 1;soul s;", 2);
        good(" kind\na\n\n1  1 ; \n soul s\n;\n", 2);
        goodSentence("(debts<1)and(waits)", 4);
        goodSentence(" ( debts  < 1\n) and\n( waits ) ", 4);
    }

    private static void p04OtherBytesAreNoTokens() {
        for (int b = 0; b < 256; b++) {
            boolean runsOn = b >= 'a' && b <= 'z' || b >= '0' && b <= '9';
            boolean blank = b == ' ' || b == 10;
            if (!runsOn && !blank) {
                bad("soul a" + (b == ';' ? ";" : " ") + (char) b + ";", 7, 1);
                bad((char) b + "soul a;", 0, 1);
            }
        }
        good("soul a ;", 1);
        good("\nsoul a;", 1);
    }

    private static void p04WhereAWordEnds() {
        for (int b = 0; b < 256; b++) {
            boolean letter = b >= 'a' && b <= 'z';
            boolean digit = b >= '0' && b <= '9';
            String text = "soul s" + (char) b + ";";
            if (letter || b == ' ' || b == 10) {
                good(text, 1);
            } else if (digit) {
                bad(text, 5, 1);
            } else {
                bad(text, b == ';' ? 7 : 6, 1);
            }
        }
    }

    private static void p04WhereANumberEnds() {
        for (int b = 0; b < 256; b++) {
            boolean letter = b >= 'a' && b <= 'z';
            boolean digit = b >= '0' && b <= '9';
            String text = "grows 0" + (char) b + ";";
            if (digit || b == ' ' || b == 10) {
                good(text, 1);
            } else if (letter) {
                bad(text, 6, 1);
            } else {
                bad(text, b == ';' ? 8 : 7, 1);
            }
        }
    }

    private static void p04WordsOf1To7() {
        good("soul s;", 1);
        good("soul abcdefg;", 1);
        bad("soul abcdefgh;", 5, 1);
        bad("soul abcdefghijklmnopqrstuvwxyz;", 5, 1);
    }

    private static void p04WordsAreToldApartByAllLetters() {
        good("soul aaaaaaa;soul aaaaaab;soul baaaaaa;soul aaaaaa;soul a;soul z;soul zzzzzzz;", 7);
        bad("soul abcdefg;soul abcdefg;", 18, 3);
        bad("kindx a 1 1;", 0, 1);
        bad("kin a 1 1;", 0, 1);
    }

    private static void p04NumbersOf1To3() {
        good("kind a 1 1;", 1);
        good("kind a 060 009;", 1);
        bad("kind a 0060 9;", 7, 1);
        bad("kind a 60 0009;", 10, 1);
        bad("kind a 99999999999999999999 9;", 7, 1);
    }

    private static void p04LettersAndDigitsTogether() {
        bad("soul a1;", 5, 1);
        bad("soul 1a;", 5, 1);
        bad("grows 1a;", 6, 1);
        bad("grows a1;", 6, 1);
        bad("soul a 1;", 7, 1);
    }

    // ---- 4: an OFFICE ----

    private static void p04WithoutLines() {
        SoulOffice x = Desk.with(SMALL + "grows 3;debt s t 1;");
        D.due("no bytes", x.office(), 0);
        D.due("no KINDS any more", x.count(0), 0);
        D.due("no SOULS any more", x.count(1), 0);
        D.due("no debts any more", x.now(1), 0);
        good(" \n", 0);
    }

    private static void p04HowManyLines() {
        good("soul a;", 1);
        good(SIX_KINDS + EIGHT_SOULS, 14);
        good(SMALL + "meets k l 0;only s k l;wish s k;debt s t 1;grows 0;", 9);
    }

    private static void p04ALineWithoutItsEnd() {
        bad("soul a", 6, 1);
        bad("soul a ", 7, 1);
        bad("soul a;soul b", 13, 1);
        bad("soul a soul b;", 7, 1);
    }

    private static void p04AnEmptyLine() {
        bad(";", 0, 1);
        bad("soul a;;", 7, 1);
    }

    private static void p04TheTapeIsEmptyThen() {
        SoulOffice x = Desk.with(SMALL);
        D.due("without a FAULT", x.count(3), 0);
        Desk.office(x, "soul");
        D.due("with a FAULT, too", x.count(3), 0);
        Desk.office(x, Desk.blanks(940));
        D.due("with more than 900", x.count(3), 0);
    }

    private static void p04ItStaysWithAFault() {
        SoulOffice x = Desk.with(SMALL + "meets k l 5;only s k;wish t l;debt s t 9;grows 3;");
        Desk.sentence(x, "waits");
        x.give(0, 0);
        for (String text : new String[] {"kind", "kind q 0 1;", "soul q;soul q;", SIX_KINDS + "kind"}) {
            D.due("a FAULT", Desk.office(x, text) < 0, true);
            D.due("KINDS", x.count(0), 2);
            D.due("SOULS", x.count(1), 2);
            D.due("grows", x.count(2), 3);
            D.due("DAYS", x.kind(0, 0), 2);
            D.due("meets", x.meets(0, 1), 5);
            D.due("only", x.soul(0, 3), 1);
            D.due("wish", x.soul(1, 4), 1);
            D.due("debt", x.debt(0, 1), 9);
            D.due("who lives", x.soul(0, 0), 0);
            D.due("the SENTENCE", x.said(-1), 1);
        }
        D.due("what can be undone", x.undo(), 0);
    }

    private static void p04PlaceOfTheFault() {
        bad("grow", 0, 1);
        bad(" grow", 1, 1);
        bad(Desk.blanks(900) + "grow", 900, 1);
    }

    private static void p04DaysOfAKind1To60() {
        good("kind a 1 1;", 1);
        good("kind a 60 1;", 1);
        bad("kind a 0 1;", 7, 2);
        bad("kind a 61 1;", 7, 2);
        bad("kind a 999 1;", 7, 2);
    }

    private static void p04PlacesOfAKind1To9() {
        good("kind a 1 9;", 1);
        bad("kind a 1 0;", 9, 2);
        bad("kind a 1 10;", 9, 2);
        bad("kind a 60 999;", 10, 2);
    }

    private static void p04MeetingFor0To99() {
        good(SMALL + "meets k l 0;", 5);
        good(SMALL + "meets k l 99;", 5);
        bad(SMALL + "meets k l 100;", 46, 2);
    }

    private static void p04EachTwoMeetOnceInWhateverOrder() {
        bad(SMALL + "meets k l 1;meets k l 1;", 56, 3);
        bad(SMALL + "meets k l 1;meets l k 1;", 56, 3);
        bad(SMALL + "meets k l 0;meets l k 0;", 56, 3);
        good(SMALL + "meets k l 1;meets k k 1;meets l l 1;", 7);
    }

    private static void p04TheTwoWhoMeetMayBeAlike() {
        SoulOffice x = Desk.with(SMALL + "meets k k 7;");
        D.due("meets", x.meets(0, 0), 7);
        bad(SMALL + "meets k k 7;meets k k 7;", 56, 3);
    }

    private static void p04OnlyWithoutAKind() {
        bad(SMALL + "only s;", 42, 1);
        bad(SMALL + "only;", 40, 1);
    }

    private static void p04OnlyEachKindOnce() {
        good(SMALL + "only s k l;", 5);
        bad(SMALL + "only s k k;", 45, 3);
        bad(SMALL + "only s k l k;", 47, 3);
        good(SIX_KINDS + "soul s;only s f e d c b a;", 8);
        bad(SIX_KINDS + "soul s;only s f e d c b a f;", 66 + 7 + 19, 3);
    }

    private static void p04OnlyEachSoulOnce() {
        good(SMALL + "only s k;only t k;", 6);
        bad(SMALL + "only s k;only s l;", 50, 3);
        bad(SMALL + "only s k l;only s k l;", 52, 3);
    }

    private static void p04AllKindsWithoutOnly() {
        SoulOffice x = Desk.with("soul s;" + SIX_KINDS + "soul t;only t f;");
        D.due("all, told behind it, too", x.soul(0, 3), 63);
        D.due("one", x.soul(1, 3), 32);
        x = Desk.with("soul s;");
        D.due("none there are", x.soul(0, 3), 0);
    }

    private static void p04WishEachSoulOnce() {
        good(SMALL + "wish s k;wish t k;", 6);
        bad(SMALL + "wish s k;wish s k;", 50, 3);
        bad(SMALL + "wish s k;wish s l;", 50, 3);
        bad(SMALL + "wish s;", 42, 1);
        bad(SMALL + "wish s k l;", 45, 1);
    }

    private static void p04DebtsOfUnlikeOnes() {
        bad(SMALL + "debt s s 1;", 43, 3);
        bad(SMALL + "debt t t 0;", 43, 3);
    }

    private static void p04DebtsOf1To999() {
        good(SMALL + "debt s t 1;", 5);
        good(SMALL + "debt s t 999;", 5);
        bad(SMALL + "debt s t 0;", 45, 2);
        bad(SMALL + "debt s t 000;", 45, 2);
        bad(SMALL + "debt s t 1000;", 45, 1);
    }

    private static void p04DebtsEachTwoOnceInThisOrder() {
        bad(SMALL + "debt s t 1;debt s t 2;", 54, 3);
        good(SMALL + "debt s t 1;debt t s 2;", 6);
        bad(SMALL + "debt s t 1;debt t s 2;debt t s 2;", 65, 3);
    }

    private static void p04GrowsBy0To9() {
        good("grows 0;", 1);
        good("grows 9;", 1);
        bad("grows 10;", 6, 2);
    }

    private static void p04GrowsOnce() {
        bad("grows 1;grows 1;", 8, 3);
        bad("grows 0;grows 0;", 8, 3);
        bad("grows 1;soul a;grows", 15, 3);
    }

    private static void p04GrowsBy0Without() {
        SoulOffice x = Desk.with("grows 9;");
        Desk.office(x, "soul a;");
        D.due("grows", x.count(2), 0);
    }

    private static void p04NoNameIsAWordToldInATextsLines() {
        for (String word : RESERVED) {
            bad("kind " + word + " 1 1;", 5, 1);
            bad("soul " + word + ";", 5, 1);
        }
        good("soul kinds;soul sou;soul places;soul o;soul ands;soul wait;", 6);
    }

    private static void p04ANameToldTwice() {
        bad("kind a 1 1;kind a 1 1;", 16, 3);
        bad("soul a;soul a;", 12, 3);
    }

    private static void p04ANameToldTwiceOfAnotherSort() {
        bad("kind a 1 1;soul a;", 16, 3);
        bad("soul a;kind a 1 1;", 12, 3);
    }

    private static void p04ANameNotTold() {
        bad("meets q q 1;", 6, 3);
        bad(SMALL + "meets k q 1;", 44, 3);
        bad(SMALL + "only q k;", 41, 3);
        bad(SMALL + "only s q;", 43, 3);
        bad(SMALL + "only s k q;", 45, 3);
        bad(SMALL + "wish q k;", 41, 3);
        bad(SMALL + "wish s q;", 43, 3);
        bad(SMALL + "debt q t 1;", 41, 3);
        bad(SMALL + "debt s q 1;", 43, 3);
    }

    private static void p04ANameToldBehindIt() {
        bad("soul s;wish s k;kind k 1 1;", 14, 3);
        bad("meets k k 1;kind k 1 1;", 6, 3);
    }

    private static void p04ANameOfAnotherSort() {
        bad(SMALL + "meets s k 1;", 42, 3);
        bad(SMALL + "meets k s 1;", 44, 3);
        bad(SMALL + "only k k;", 41, 3);
        bad(SMALL + "only s s;", 43, 3);
        bad(SMALL + "only s k t;", 45, 3);
        bad(SMALL + "wish k k;", 41, 3);
        bad(SMALL + "wish s s;", 43, 3);
        bad(SMALL + "debt k t 1;", 41, 3);
        bad(SMALL + "debt s k 1;", 43, 3);
    }

    private static void p04SixKinds() {
        SoulOffice x = Desk.with(SIX_KINDS);
        D.due("six", x.count(0), 6);
        D.due("the last one's DAYS", x.kind(5, 0), 1);
    }

    private static void p04ASeventhKind() {
        bad(SIX_KINDS + "kind g 1 1;", 66, 4);
        bad(SIX_KINDS + "kind a 1 1;", 66, 4);
        bad(SIX_KINDS + "kind", 66, 4);
        bad(SIX_KINDS + " kind 0", 67, 4);
        good(SIX_KINDS + "soul g;", 7);
    }

    private static void p04EightSouls() {
        SoulOffice x = Desk.with(EIGHT_SOULS);
        D.due("eight", x.count(1), 8);
        D.due("the last one waits", x.soul(7, 0), -1);
    }

    private static void p04ANinthSoul() {
        bad(EIGHT_SOULS + "soul q;", 56, 4);
        bad(EIGHT_SOULS + "soul s;", 56, 4);
        bad(EIGHT_SOULS + "soul", 56, 4);
        good(EIGHT_SOULS + "kind q 1 1;", 9);
    }

    private static void p04NumberedFrom0AsTold() {
        SoulOffice x = Desk.with("soul z;kind y 5 1;soul a;kind b 7 1;wish a b;debt z a 3;");
        D.due("KIND 0", x.kind(0, 0), 5);
        D.due("KIND 1", x.kind(1, 0), 7);
        D.due("SOUL 1 wishes KIND 1", x.soul(1, 4), 1);
        D.due("SOUL 0 owes SOUL 1", x.debt(0, 1), 3);
    }

    private static void p04NineHundredBytes() {
        good("soul a;" + Desk.blanks(893), 1);
        good(Desk.blanks(893) + "soul a;", 1);
        good(Desk.blanks(900), 0);
    }

    private static void p04MoreThan900Bytes() {
        bad("soul a;" + Desk.blanks(894), 900, 1);
        bad(Desk.blanks(894) + "soul a;", 900, 1);
        bad(Desk.blanks(901), 900, 1);
        bad(Desk.blanks(940), 900, 1);
    }

    private static void p04MoreThan900BytesAndAFaultAhead() {
        bad("x" + Desk.blanks(939), 0, 1);
        bad("soul a;grows 10;" + Desk.blanks(900), 13, 2);
        bad(Desk.blanks(892) + "soul a;;x", 899, 1);
    }

    private static void p04TokensThatBeginAheadOf900AreReadWhole() {
        bad(Desk.blanks(893) + "grows 10;", 899, 2);
        bad(Desk.blanks(893) + "grows 1000;", 899, 1);
        bad("soul a;" + Desk.blanks(887) + "soul ab;", 900, 1);
        bad("soul ab;" + Desk.blanks(886) + "soul ab;", 899, 3);
        bad(Desk.blanks(894) + "grows 10;", 900, 1);
    }

    private static void p04TheEndIsHowManyBytesThereAre() {
        bad("kind", 4, 1);
        bad("kind \n", 6, 1);
        bad("kind a 1" + Desk.blanks(892), 900, 1);
        bad("kind a 1" + Desk.blanks(891), 899, 1);
    }

    private static void p04TheFirstFaultAlongTheText() {
        bad("kind a 0 0;", 7, 2);
        bad("grows 10;soul a;soul a;", 6, 2);
        bad("soul a;soul a;grows 10;", 12, 3);
        bad(EIGHT_SOULS + "soul a;.", 56, 4);
        bad("soul a.soul a;", 6, 1);
    }

    private static void p04OfOneTokenTheLeastFault() {
        // a WORD of eight letters where a NAME told is due; a NUMBER of four digits where one is
        bad("soul abcdefg;soul abcdefgh;", 18, 1);
        bad("grows 0100;", 6, 1);
        bad(SMALL + "debt s day 1;", 43, 1);
        bad(SMALL + "debt s 1 1;", 43, 1);
    }

    private static void p04NamesOfAFormerOffice() {
        for (String line : new String[] {"only t k;", "only s l;", "wish t k;", "wish s l;", "debt s t 1;", "meets k l 1;"}) {
            SoulOffice x = Desk.with("kind k 1 1;kind l 1 1;soul s;soul t;");
            int answer = Desk.office(x, "kind k 1 1;soul s;" + line);
            D.due(line, answer < 0 ? 1 : 0, 1);
            D.due(line + " not told now", x.fault(), 3);
        }
        SoulOffice x = Desk.with("kind k 1 1;kind l 1 1;soul s;soul t;");
        D.due("told anew, the other way", Desk.office(x, "kind t 1 1;kind s 1 1;soul l;soul k;wish k s;"), 5);
        D.due("its wish", x.soul(1, 4), 1);
    }

    private static void p04ANewOfficeBeginsAnew() {
        SoulOffice x = Desk.with(SMALL + "debt s t 9;meets k k 2;grows 1;");
        Desk.sentence(x, "waits");
        x.give(0, 0);
        x.give(1, 0);
        x.days(2);
        x.give(0, 1);
        x.give(1, 0);
        D.due("all live", x.now(4), 0);
        Desk.office(x, SMALL + "debt t s 4;");
        D.due("DAY 0", x.now(0), 0);
        D.due("debts as told", x.now(1), 4);
        D.due("nothing settled", x.now(2), 0);
        D.due("nothing grown", x.now(3), 0);
        D.due("all wait", x.now(4), 2);
        D.due("no births", x.now(5), 0);
        D.due("no SENTENCE", x.said(-1), -1);
        D.due("nothing can be undone", x.undo(), -1);
        D.due("no DAY went", x.settled(0, 1), -1);
        D.due("no meeting", x.meets(0, 0), 0);
        D.due("PLACES", x.kind(0, 2) + x.kind(1, 2), 3);
        for (int t = 0; t < 2; t++) {
            D.due("it waits", x.soul(t, 0), -1);
            D.due("no DAYS left", x.soul(t, 1), 0);
            D.due("no births", x.soul(t, 2), 0);
            D.due("not today", x.soul(t, 7), 0);
        }
    }

    private static void p04AWordWhereANumberIsDue() {
        for (String word : RESERVED) {
            bad("kind a " + word + " 1;", 7, 1);
            bad("kind a 1 " + word + ";", 9, 1);
            bad("grows " + word + ";", 6, 1);
            bad(SMALL + "meets k l " + word + ";", 46, 1);
            bad(SMALL + "debt s t " + word + ";", 45, 1);
        }
        bad("grows a;", 6, 1);
    }

    private static void p04ANumberWhereAWordIsDue() {
        for (int n = 0; n < 20; n++) {
            bad(n + " a 1 1;", 0, 1);
            bad("soul " + n + ";", 5, 1);
            bad(SMALL + "only s " + n + ";", 43, 1);
            bad(SMALL + "wish " + n + " k;", 41, 1);
        }
    }

    private static void p04NamesOfTheLastOnes() {
        SoulOffice x = Desk.with(SIX_KINDS + EIGHT_SOULS + "meets f f 8;only z f;wish z f;debt z y 7;debt y z 6;");
        D.due("meets", x.meets(5, 5), 8);
        D.due("only", x.soul(7, 3), 32);
        D.due("wish", x.soul(7, 4), 5);
        D.due("debt", x.debt(7, 6) * 10 + x.debt(6, 7), 76);
        D.due("in a DAYBOOK", Desk.book(x, 0, "z as f;"), -1);
        D.due("in a SENTENCE", Desk.sentence(x, "as f or owes z"), 2);
    }

    // ---- 5: fault ----

    private static void p05AheadOfAny() {
        SoulOffice x = new SoulOffice();
        x.feed(1, 2, 3, 4, 5);
        D.due("fault()", x.fault(), 0);
    }

    private static void p05OfTheLatestOfThree() {
        SoulOffice x = Desk.with(SMALL);
        D.due("none", x.fault(), 0);
        Desk.office(x, "grows 10;");
        D.due("office()", x.fault(), 2);
        Desk.book(x, 0, "q as k;");
        D.due("daybook(0)", x.fault(), 3);
        Desk.book(x, 1, "day 1");
        D.due("daybook(1)", x.fault(), 1);
        Desk.sentence(x, "not ".repeat(8) + "waits");
        D.due("sentence()", x.fault(), 4);
    }

    private static void p05WithoutOne() {
        SoulOffice x = Desk.with(SMALL);
        Desk.office(x, "soul");
        Desk.office(x, SMALL);
        D.due("office()", x.fault(), 0);
        Desk.office(x, "soul");
        Desk.book(x, 0, "");
        D.due("daybook()", x.fault(), 0);
        Desk.office(x, "soul");
        Desk.sentence(x, "waits");
        D.due("sentence()", x.fault(), 0);
    }

    private static void p05WrongIsNoFault() {
        SoulOffice x = Desk.with(SMALL);
        Desk.office(x, "soul");
        Desk.book(x, 1, "s as l;s as l;");
        D.due("fault()", x.fault(), 0);
    }

    private static void p05AnotherLivesLeavesIt() {
        SoulOffice x = Desk.with(SMALL);
        Desk.office(x, "grows 10;");
        x.daybook(2);
        D.due("daybook(2)", x.fault(), 2);
        x.daybook(-1);
        D.due("daybook(-1)", x.fault(), 2);
    }

    private static void p05OtherCallsLeaveIt() {
        SoulOffice x = Desk.with(SMALL);
        x.image(0);
        Desk.sentence(x, "as q");
        Desk.were(x, 0, 1, 9);
        x.restore(0);
        x.undo();
        x.feed(0, 0, 0, 0, 0);
        x.end(0);
        D.due("fault()", x.fault(), 3);
    }

    // ---- 33: how a DAYBOOK is read ----

    private static void p33WithoutLines() {
        goodBook("");
        goodBook(" \n ");
        SoulOffice x = new SoulOffice();
        D.due("without an OFFICE", x.daybook(1), -1);
    }

    private static void p33ThirtyLines() {
        goodBook("day 1;".repeat(30));
        SoulOffice x = Desk.with(SMALL);
        Desk.book(x, 0, "day 1;".repeat(30));
        D.due("all", x.booked(1), 30);
    }

    private static void p33AThirtyFirstLine() {
        badBook("day 1;".repeat(31), 180, 4);
        badBook("day 1;".repeat(30) + " clerk 0;", 181, 4);
        badBook("day 1;".repeat(30) + "s as s;", 180, 4);
        badBook("day 1;".repeat(30) + "t", 180, 4);
    }

    private static void p33AThirtyFirstLineWithALesserFault() {
        badBook("day 1;".repeat(30) + "q as k;", 180, 3);
        badBook("day 1;".repeat(30) + "k as k;", 180, 3);
        badBook("day 1;".repeat(30) + "kind", 180, 1);
        badBook("day 1;".repeat(30) + ";", 180, 1);
        badBook("day 1;".repeat(30) + "1", 180, 1);
    }

    private static void p33DaysOf1To60() {
        goodBook("day 1;day 60;");
        badBook("day 0;", 4, 2);
        badBook("day 61;", 4, 2);
        badBook("day 999;", 4, 2);
        badBook("day 1000;", 4, 1);
    }

    private static void p33ClerkOf1To60() {
        goodBook("clerk 1;clerk 60;");
        badBook("clerk 0;", 6, 2);
        badBook("clerk 61;", 6, 2);
    }

    private static void p33FourHundredBytes() {
        goodBook("day 1;" + Desk.blanks(394));
        goodBook(Desk.blanks(394) + "day 1;");
        badBook("day 1;" + Desk.blanks(395), 400, 1);
        badBook(Desk.blanks(395) + "day 1;", 400, 1);
        badBook(Desk.blanks(940), 400, 1);
    }

    private static void p33TokensThatBeginAheadOf400AreReadWhole() {
        badBook(Desk.blanks(395) + "day 61;", 399, 2);
        badBook(Desk.blanks(395) + "day 1000;", 399, 1);
        badBook(Desk.blanks(395) + "day 60;", 400, 1);
        badBook("q" + Desk.blanks(500), 0, 3);
    }

    private static void p33NamesOfTheOfficeAlone() {
        badBook("q as k;", 0, 3);
        badBook("k as k;", 0, 3);
        badBook("s as q;", 5, 3);
        badBook("s as t;", 5, 3);
        SoulOffice x = Desk.with(SMALL);
        Desk.office(x, "soul q;");
        D.due("an OFFICE of another", Desk.book(x, 0, "s as k;"), -2);
        D.due("its fault", x.fault(), 3);
    }

    private static void p33NamesOfAFormerOffice() {
        SoulOffice x = Desk.with("kind k 1 1;kind l 1 1;soul s;soul t;");
        Desk.office(x, "kind k 1 1;soul s;");
        D.due("a SOUL", Desk.book(x, 0, "t as k;"), -2);
        D.due("not told now", x.fault(), 3);
        D.due("a KIND", Desk.book(x, 0, "s as l;"), -2 - 5);
        D.due("not told now", x.fault(), 3);
    }

    private static void p33WordsThatCannotCome() {
        for (String word : RESERVED) {
            if (!word.equals("day") && !word.equals("clerk")) {
                badBook(word + " 1;", 0, 1);
            }
            if (!word.equals("as")) {
                badBook("s " + word + " k;", 2, 1);
            }
            badBook("s as " + word + ";", 5, 1);
        }
        badBook("day k;", 4, 1);
        badBook("day;", 3, 1);
        badBook("day", 3, 1);
        badBook("s as k", 6, 1);
        badBook("day 1 clerk 1;", 6, 1);
        badBook("day 1;;", 6, 1);
    }

    private static void p33WithoutAs() {
        badBook("s k;", 2, 1);
        badBook("s k k;", 2, 1);
        badBook("s;", 1, 1);
        badBook("s", 1, 1);
        badBook("s as;", 4, 1);
    }

    private static void p33ANumberWhereAWordIsDue() {
        for (int n = 0; n < 20; n++) {
            badBook(n + " as k;", 0, 1);
            badBook(n + " 1;", 0, 1);
            badBook("s " + n + " k;", 2, 1);
            badBook("s as " + n + ";", 5, 1);
        }
    }

    private static void p33AWordWhereANumberIsDue() {
        for (String word : RESERVED) {
            badBook("day " + word + ";", 4, 1);
            badBook("clerk " + word + ";", 6, 1);
        }
        badBook("day s;", 4, 1);
    }

    private static void p33TheTapeIsEmptyThen() {
        SoulOffice x = Desk.with(SMALL);
        Desk.book(x, 0, "day 1;");
        D.due("without a FAULT", x.count(3), 0);
        Desk.book(x, 1, "day");
        D.due("with a FAULT, too", x.count(3), 0);
        Desk.book(x, 1, "s as k;s as k;");
        D.due("with what is WRONG", x.count(3), 0);
    }

    private static void p33TheTapeStaysByAnotherLives() {
        SoulOffice x = Desk.with(SMALL);
        Desk.text(x, "day 1;");
        D.due("daybook(2)", x.daybook(2), -1000);
        D.due("daybook(-1)", x.daybook(-1), -1000);
        D.due("the least", x.daybook(Integer.MIN_VALUE), -1000);
        D.due("the greatest", x.daybook(Integer.MAX_VALUE), -1000);
        D.due("bytes", x.count(3), 6);
        D.due("the same bytes", x.daybook(1), -1);
        D.due("DAY", x.now(0), 1);
    }

    private static void p33WithAFaultNothingIsLived() {
        SoulOffice x = Desk.with(SMALL);
        D.due("a FAULT in the last LINE", Desk.book(x, 1, "day 1;s as k;day 0;"), -2 - 17);
        D.due("DAY", x.now(0), 0);
        D.due("births", x.now(5), 0);
        D.due("nothing to undo", x.undo(), -1);
    }

    // ---- 35: how a SENTENCE is read ----

    private static void p35Empty() {
        badSentence("", 0, 1);
        badSentence(" \n", 2, 1);
    }

    private static void p35TwentyOnes() {
        goodSentence("waits" + " or waits".repeat(19), 20);
        goodSentence("not (waits)" + " and (waits)".repeat(8) + " or waits", 20);
    }

    private static void p35ATwentyFirstOne() {
        badSentence("waits" + " or waits".repeat(20), 180, 4);
        badSentence("waits" + " and waits".repeat(19) + " and (waits)", 200, 1);
        badSentence("waits" + " or waits".repeat(18) + " or not waits", 175, 4);
        badSentence("waits" + " or waits".repeat(18) + " or (waits)", 172, 4);
        badSentence("waits" + " or waits".repeat(19) + " or as q", 180, 4);
        badSentence("waits" + " or waits".repeat(19) + " or (", 180, 4);
    }

    private static void p35ATwentyFirstOneWithALesserFault() {
        badSentence("waits" + " or waits".repeat(19) + " or q", 180, 1);
        badSentence("waits" + " or waits".repeat(19) + " or kind", 180, 1);
        badSentence("waits" + " or waits".repeat(19) + " or", 179, 1);
    }

    private static void p35EightWithinOneAnother() {
        goodSentence("not ".repeat(7) + "waits", 8);
        goodSentence("(".repeat(7) + "waits" + ")".repeat(7), 8);
        goodSentence("(not ".repeat(3) + "(waits or as k)" + ")".repeat(3), 9);
        goodSentence("(".repeat(7) + "waits" + ")".repeat(7) + " or " + "not ".repeat(7) + "waits", 16);
    }

    private static void p35ANinthWithin() {
        badSentence("not ".repeat(8) + "waits", 32, 4);
        badSentence("(".repeat(8) + "as k" + ")".repeat(8), 8, 4);
        badSentence("(not ".repeat(4) + "owes s", 20, 4);
        badSentence("(".repeat(7) + "waits and (waits)", 18, 4);
        badSentence("(".repeat(8) + "kind", 8, 1);
        badSentence("(".repeat(8) + ")", 8, 1);
    }

    private static void p35NumbersOf1To3() {
        goodSentence("debts<0", 1);
        goodSentence("debts<999", 1);
        goodSentence("debts<007", 1);
        badSentence("debts<1000", 6, 1);
        badSentence("debts<0000", 6, 1);
    }

    private static void p35Signs() {
        goodSentence("left<1 or left=1 or left>1", 3);
        badSentence("left;1", 4, 1);
        badSentence("left(1", 4, 1);
        badSentence("left)1", 4, 1);
        badSentence("left 1", 5, 1);
        badSentence("left", 4, 1);
        badSentence("left<=1", 5, 1);
        badSentence("left<", 5, 1);
        badSentence("left<k", 5, 1);
        badSentence("waits<1", 5, 1);
    }

    private static void p35EachOne() {
        goodSentence("not waits", 2);
        goodSentence("(waits)", 2);
        goodSentence("waits", 1);
        goodSentence("as k", 1);
        goodSentence("owes s", 1);
        for (String what : new String[] {"debts", "dues", "births", "left", "place"}) {
            goodSentence(what + "=1", 1);
        }
    }

    private static void p35WordsThatCannotCome() {
        for (String word : new String[] {"kind", "meets", "soul", "only", "wish", "debt", "grows", "day", "clerk", "or", "and"}) {
            badSentence(word, 0, 1);
            badSentence("not " + word, 4, 1);
            badSentence("(" + word, 1, 1);
            badSentence("waits or " + word, 9, 1);
        }
        badSentence("s", 0, 1);
        badSentence("q", 0, 1);
        badSentence("1", 0, 1);
        badSentence(";", 0, 1);
        badSentence(")", 0, 1);
        badSentence("waits waits", 6, 1);
        badSentence("waits)", 5, 1);
        badSentence("(waits", 6, 1);
        badSentence("(waits;", 6, 1);
        badSentence("waits;", 5, 1);
        badSentence("waits or", 8, 1);
        badSentence("()", 1, 1);
        badSentence("not", 3, 1);
    }

    private static void p35ANumberWhereAWordIsDue() {
        for (int n = 0; n < 20; n++) {
            badSentence(n + " k", 0, 1);
            badSentence("not " + n, 4, 1);
            badSentence("waits " + n + " waits", 6, 1);
            badSentence("as " + n, 3, 1);
            badSentence("owes " + n, 5, 1);
        }
    }

    private static void p35AWordWhereANumberIsDue() {
        for (String word : RESERVED) {
            badSentence("debts<" + word, 6, 1);
            badSentence("place=" + word, 6, 1);
        }
    }

    private static void p35NamesOfTheOfficeAlone() {
        badSentence("as q", 3, 3);
        badSentence("as s", 3, 3);
        badSentence("owes q", 5, 3);
        badSentence("owes k", 5, 3);
        badSentence("as waits", 3, 1);
        badSentence("owes not", 5, 1);
        badSentence("as 1", 3, 1);
        badSentence("owes", 4, 1);
        SoulOffice x = new SoulOffice();
        D.due("without an OFFICE", Desk.sentence(x, "owes s"), -6);
        D.due("its fault", x.fault(), 3);
    }

    private static void p35NamesOfAFormerOffice() {
        SoulOffice x = Desk.with("kind k 1 1;kind l 1 1;soul s;soul t;");
        Desk.office(x, "kind k 1 1;soul s;");
        D.due("a KIND", Desk.sentence(x, "as l"), -1 - 3);
        D.due("not told now", x.fault(), 3);
        D.due("a SOUL", Desk.sentence(x, "owes t"), -1 - 5);
        D.due("not told now", x.fault(), 3);
    }

    private static void p35TwoHundredBytes() {
        goodSentence("waits" + Desk.blanks(195), 1);
        goodSentence(Desk.blanks(195) + "waits", 1);
        badSentence("waits" + Desk.blanks(196), 200, 1);
        badSentence(Desk.blanks(196) + "waits", 200, 1);
        badSentence(Desk.blanks(940), 200, 1);
    }

    private static void p35TokensThatBeginAheadOf200AreReadWhole() {
        badSentence(Desk.blanks(194) + "left<1000", 199, 1);
        badSentence(Desk.blanks(194) + "left<100", 200, 1);
        badSentence(Desk.blanks(196) + "as  q", 200, 1);
        badSentence(Desk.blanks(195) + "as  qq", 199, 3);
        badSentence("q" + Desk.blanks(500), 0, 1);
    }

    private static void p35TheTapeIsEmptyThen() {
        SoulOffice x = Desk.with(SMALL);
        Desk.sentence(x, "waits");
        D.due("without a FAULT", x.count(3), 0);
        Desk.sentence(x, "waits or");
        D.due("with a FAULT, too", x.count(3), 0);
    }

    private static void p35ItStaysWithAFault() {
        SoulOffice x = Desk.with(SMALL);
        D.due("the SENTENCE", Desk.sentence(x, "place=1"), 1);
        D.due("a FAULT", Desk.sentence(x, "place=0 and q"), -1 - 12);
        D.due("how many", x.said(-1), 1);
        D.due("the first", x.said(0), 1);
        D.due("a FAULT", Desk.sentence(x, ""), -1);
        D.due("the first", x.said(0), 1);
    }
}
