/**
 * The boundary cases that the document names for DAYBOOKS judged and lived, for what may be said, images and counts
 * (promises 33 to 39; TextEdges has how their texts are read): each has a test of its own. EdgesTest runs them.
 */
final class BookEdges {
    private static final Desk D = EdgesTest.DESK;
    private static final String THREE = "kind w 3 1;kind c 2 2;kind t 60 1;meets w c 4;meets c c 10;"
            + "soul a;soul b;soul d;only d t;wish a w;debt a b 9;debt b a 2;debt d a 5;grows 1;";
    private static final String EIGHT = "kind k 60 9;soul a;soul b;soul c;soul d;soul e;soul f;soul g;soul h;";

    private BookEdges() {
    }

    private static SoulOffice atDay9960(String office) {
        SoulOffice x = Desk.with(office);
        for (int gone = 0; gone < 9960; gone += 60) {
            x.days(60);
        }
        D.due("the DAY", x.now(0), 9960);
        return x;
    }

    // ---- 33: daybook ----

    private static void p33NoneIsWrong() {
        SoulOffice x = Desk.with(THREE);
        D.due("judged", Desk.book(x, 0, "a as w;day 1;"), -1);
        D.due("lived", Desk.book(x, 1, "a as w;day 1;"), -1);
    }

    private static void p33JudgedAllStays() {
        SoulOffice x = Desk.with(THREE);
        D.due("none WRONG", Desk.book(x, 0, "a as c;b as c;day 3;clerk 2;"), -1);
        D.due("WRONG", Desk.book(x, 0, "a as c;a as c;"), 1);
        D.due("DAY", x.now(0), 0);
        D.due("births", x.now(5), 0);
        D.due("debts", x.now(1), 16);
        D.due("grown", x.now(3), 0);
        D.due("PLACES left", x.kind(1, 2), 2);
        D.due("nothing to undo", x.undo(), -1);
    }

    private static void p33LivedAsFarAsItIsNotWrong() {
        SoulOffice x = Desk.with(THREE);
        D.due("the fourth LINE", Desk.book(x, 1, "a as c;b as c;day 1;b as w;day 9;"), 3);
        D.due("DAY", x.now(0), 1);
        D.due("settled", x.now(2), 10);
        D.due("births", x.now(5), 2);
    }

    private static void p33TheFirstLineIsWrong() {
        SoulOffice x = Desk.with(THREE);
        D.due("lived", Desk.book(x, 1, "d as w;day 9;"), 0);
        D.due("DAY", x.now(0), 0);
        D.due("nothing to undo", x.undo(), -1);
    }

    private static void p33TheLastOfThirtyIsWrong() {
        SoulOffice x = Desk.with(THREE);
        D.due("the last LINE", Desk.book(x, 1, "a as w;" + "day 1;".repeat(28) + "d as w;"), 29);
        D.due("DAY", x.now(0), 28);
    }

    private static void p33ItDoesNotWait() {
        SoulOffice x = Desk.with(THREE);
        D.due("WRONG", Desk.book(x, 0, "a as w;a as w;"), 1);
        D.due("why", x.booked(0), 1);
        D.due("when its life is over", Desk.book(x, 0, "a as w;day 3;a as w;"), -1);
        D.due("a DAY ahead", Desk.book(x, 0, "a as w;day 2;a as w;"), 2);
    }

    private static void p33ItMayNotBeThat() {
        SoulOffice x = Desk.with(THREE);
        D.due("WRONG", Desk.book(x, 0, "a as w;d as w;"), 1);
        D.due("why", x.booked(0), 2);
    }

    private static void p33NoPlaceIsLeft() {
        SoulOffice x = Desk.with(THREE);
        D.due("WRONG", Desk.book(x, 0, "a as w;b as w;"), 1);
        D.due("why", x.booked(0), 3);
        D.due("on another DAY", Desk.book(x, 0, "a as w;day 1;b as w;"), -1);
    }

    private static void p33ToDay9999() {
        SoulOffice x = atDay9960(THREE);
        D.due("to 9999 itself", Desk.book(x, 0, "day 39;"), -1);
        D.due("to 9999 itself", Desk.book(x, 0, "clerk 39;"), -1);
        D.due("to 9999 itself", Desk.book(x, 0, "day 19;clerk 20;"), -1);
        D.due("to 9999 itself", Desk.book(x, 1, "day 19;day 20;"), -1);
        D.due("the DAY", x.now(0), 9999);
        D.due("without a DAY", Desk.book(x, 1, "d as t;"), -1);
    }

    private static void p33AboveDay9999() {
        SoulOffice x = atDay9960(THREE);
        D.due("to 10000", Desk.book(x, 0, "day 40;"), 0);
        D.due("why", x.booked(0), 4);
        D.due("to 10000", Desk.book(x, 0, "clerk 40;"), 0);
        D.due("why", x.booked(0), 4);
        D.due("to 10000", Desk.book(x, 1, "day 39;clerk 1;"), 1);
        D.due("why", x.booked(0), 4);
        D.due("LINES ahead", x.booked(1), 1);
        D.due("the DAY", x.now(0), 9999);
    }

    private static void p33DayGivesNobodyOutClerkDoes() {
        SoulOffice x = Desk.with(THREE);
        Desk.book(x, 1, "day 2;");
        D.due("births", x.now(5), 0);
        Desk.book(x, 1, "clerk 2;");
        D.due("births", x.now(5), 3);
        D.due("DAY", x.now(0), 4);
    }

    private static void p33GivenOutTodayByIt() {
        SoulOffice x = Desk.with(THREE);
        Desk.book(x, 1, "day 1;a as c;");
        D.due("today", x.soul(0, 7), 1);
        D.due("an appeal", x.appeal(0, 0), 1);
        Desk.book(x, 1, "day 1;");
        D.due("not today", x.soul(0, 7), 0);
    }

    private static void p33EachLineItsOwnSoulAndKind() {
        SoulOffice x = Desk.with(THREE);
        D.due("lived", Desk.book(x, 1, "d as t;b as w;a as c;"), -1);
        D.due("a", x.soul(0, 0), 1);
        D.due("b", x.soul(1, 0), 0);
        D.due("d", x.soul(2, 0), 2);
    }

    private static void p33WhatIsSoAheadOfIt() {
        SoulOffice x = Desk.with(THREE);
        x.give(0, 0);
        D.due("a lives", Desk.book(x, 0, "a as c;"), 0);
        D.due("no PLACE is left", Desk.book(x, 0, "b as w;"), 0);
        D.due("another one", Desk.book(x, 0, "b as c;"), -1);
    }

    // ---- 34: booked ----

    private static void p34AheadOfAny() {
        SoulOffice x = Desk.with(THREE);
        for (int what = 0; what <= 3; what++) {
            D.due("booked(" + what + ")", x.booked(what), -1);
        }
        Desk.book(x, 0, "day");
        x.daybook(2);
        for (int what = 0; what <= 3; what++) {
            D.due("a FAULT, another lives: booked(" + what + ")", x.booked(what), -1);
        }
    }

    private static void p34AnotherWhat() {
        SoulOffice x = Desk.with(THREE);
        Desk.book(x, 0, "day 1;");
        for (int what : new int[] {-1, 4, Integer.MIN_VALUE, Integer.MAX_VALUE}) {
            D.due("booked(" + what + ")", x.booked(what), -1);
        }
    }

    private static void p34NotWrong() {
        SoulOffice x = Desk.with(THREE);
        Desk.book(x, 0, "a as c;b as c;day 1;");
        D.due("why", x.booked(0), 0);
        D.due("all LINES", x.booked(1), 3);
        D.due("settled in it", x.booked(2), 10);
        D.due("all debts then", x.booked(3), 8);
    }

    private static void p34WithoutLines() {
        SoulOffice x = Desk.with(THREE);
        x.give(0, 1);
        x.give(1, 1);
        x.days(1);
        Desk.book(x, 1, "");
        D.due("why", x.booked(0), 0);
        D.due("no LINES", x.booked(1), 0);
        D.due("nothing settled in it", x.booked(2), 0);
        D.due("all debts now", x.booked(3), 8);
    }

    private static void p34NotWrongBehindAWrongOne() {
        SoulOffice x = Desk.with(THREE);
        Desk.book(x, 0, "d as w;");
        D.due("no LINES", Desk.book(x, 0, ""), -1);
        D.due("why", x.booked(0), 0);
        Desk.book(x, 0, "d as w;");
        D.due("a LINE", Desk.book(x, 0, "d as t;"), -1);
        D.due("why", x.booked(0), 0);
        D.due("LINES", x.booked(1), 1);
    }

    private static void p34TheFirstLineIsWrong() {
        SoulOffice x = Desk.with(THREE);
        Desk.book(x, 0, "d as w;day 1;");
        D.due("why", x.booked(0), 2);
        D.due("no LINES ahead", x.booked(1), 0);
        D.due("nothing settled", x.booked(2), 0);
        D.due("all debts", x.booked(3), 16);
    }

    private static void p34SettledInItAlone() {
        SoulOffice x = Desk.with(THREE);
        x.give(0, 1);
        x.give(1, 1);
        x.days(1);
        Desk.book(x, 1, "day 1;");
        D.due("the second DAY", x.booked(2), 2);
        D.due("both", x.now(2), 12);
    }

    private static void p34SettledInItBehindMuchThatWas() {
        SoulOffice x = Desk.with("kind k 60 9;meets k k 60;soul a;soul b;debt a b 999;");
        x.give(0, 0);
        x.give(1, 0);
        x.days(2);
        D.due("none WRONG", Desk.book(x, 0, "day 1;day 2;"), -1);
        D.due("three DAYS", x.booked(2), 180);
        D.due("debts then", x.booked(3), 999 - 5 * 60);
        D.due("two LINES", x.booked(1), 2);
    }

    private static void p34AFaultLeavesIt() {
        SoulOffice x = Desk.with(THREE);
        Desk.book(x, 0, "a as w;b as w;day 1;");
        Desk.book(x, 0, "day 1;day 0;");
        D.due("why", x.booked(0), 3);
        D.due("LINES ahead", x.booked(1), 1);
    }

    private static void p34AnotherLivesLeavesIt() {
        SoulOffice x = Desk.with(THREE);
        Desk.book(x, 0, "a as w;b as w;day 1;");
        Desk.book(x, 2, "day 1;");
        D.due("why", x.booked(0), 3);
        D.due("LINES ahead", x.booked(1), 1);
    }

    private static void p34WhatWasToldLastStays() {
        SoulOffice x = Desk.with(THREE);
        x.image(0);
        Desk.book(x, 1, "a as c;b as c;day 1;");
        x.undo();
        D.due("behind undo()", x.booked(2), 10);
        Desk.office(x, "soul a;");
        D.due("behind an OFFICE", x.booked(2), 10);
        x.restore(0);
        D.due("behind restore()", x.booked(2), 10);
    }

    // ---- 35: sentence (what TextEdges has not) ----

    private static void p35ANewOneTakesItsPlace() {
        SoulOffice x = Desk.with(THREE);
        Desk.sentence(x, "place=0 or place=1");
        D.due("two", x.said(-1), 2);
        Desk.sentence(x, "place=2");
        D.due("one", x.said(-1), 1);
        D.due("d", x.said(0), 2);
    }

    // ---- 36: said ----

    private static void p36NoSentence() {
        D.due("a new object", new SoulOffice().said(-1), -1);
        SoulOffice x = Desk.with(THREE);
        D.due("how many", x.said(-1), -1);
        D.due("the first", x.said(0), -1);
        Desk.sentence(x, "waits");
        Desk.office(x, THREE);
        D.due("behind a new OFFICE", x.said(-1), -1);
    }

    private static void p36NoneSuch() {
        SoulOffice x = Desk.with(THREE);
        Desk.sentence(x, "place<2");
        D.due("the second", x.said(1), 1);
        for (int k : new int[] {2, 3, 8, 32, -2, Integer.MIN_VALUE, Integer.MAX_VALUE}) {
            D.due("said(" + k + ")", x.said(k), -1);
        }
    }

    private static void p36OfNobody() {
        SoulOffice x = Desk.with(THREE);
        Desk.sentence(x, "not waits");
        D.due("how many", x.said(-1), 0);
        D.due("the first", x.said(0), -1);
        x = new SoulOffice();
        Desk.sentence(x, "waits");
        D.due("no SOULS", x.said(-1), 0);
    }

    private static void p36OfAllEight() {
        SoulOffice x = Desk.with(EIGHT);
        Desk.sentence(x, "waits");
        D.due("how many", x.said(-1), 8);
        for (int s = 0; s < 8; s++) {
            D.due("said(" + s + ")", x.said(s), s);
        }
        D.due("said(8)", x.said(8), -1);
    }

    private static int bits(SoulOffice x, String sentence) {
        D.due("a FAULT in '" + sentence + "'", Desk.sentence(x, sentence) < 0, false);
        int bits = 0;
        int many = x.said(-1);
        for (int i = 0; i < many; i++) {
            bits |= 1 << x.said(i);
        }
        return bits;
    }

    private static void p36LessIsNotAsMuch() {
        SoulOffice x = Desk.with(THREE);
        // 9, 2 and 5 are owed by them; 7, 9 and 0 to them
        D.due("debts<2", bits(x, "debts<2"), 0);
        D.due("debts<3", bits(x, "debts<3"), 2);
        D.due("debts<9", bits(x, "debts<9"), 6);
        D.due("dues<0", bits(x, "dues<0"), 0);
        D.due("dues<7", bits(x, "dues<7"), 4);
        D.due("dues<8", bits(x, "dues<8"), 5);
        D.due("place<0", bits(x, "place<0"), 0);
        D.due("births<0", bits(x, "births<0"), 0);
        D.due("births<1", bits(x, "births<1"), 7);
        D.due("left<1", bits(x, "left<1"), 7);
    }

    private static void p36MoreIsNotAsMuch() {
        SoulOffice x = Desk.with(THREE);
        D.due("debts>9", bits(x, "debts>9"), 0);
        D.due("debts>8", bits(x, "debts>8"), 1);
        D.due("dues>7", bits(x, "dues>7"), 2);
        D.due("dues>6", bits(x, "dues>6"), 3);
        D.due("place>2", bits(x, "place>2"), 0);
        D.due("place>1", bits(x, "place>1"), 4);
        D.due("births>0", bits(x, "births>0"), 0);
        D.due("left>0", bits(x, "left>0"), 0);
    }

    private static void p36JustAsMuch() {
        SoulOffice x = Desk.with(THREE);
        D.due("debts=5", bits(x, "debts=5"), 4);
        D.due("dues=0", bits(x, "dues=0"), 4);
        D.due("place=1", bits(x, "place=1"), 2);
        D.due("births=0", bits(x, "births=0"), 7);
        D.due("debts=6", bits(x, "debts=6"), 0);
    }

    private static void p36DaysLeft0IfItWaits() {
        SoulOffice x = Desk.with(THREE);
        x.give(0, 0);
        D.due("this DAY counted", bits(x, "left=3"), 1);
        D.due("0 if it waits", bits(x, "left=0"), 6);
        x.days(2);
        D.due("the last DAY", bits(x, "left=1"), 1);
        x.days(1);
        D.due("it waits", bits(x, "left=0"), 7);
    }

    private static void p36BirthsAreThoseGivenOut() {
        SoulOffice x = Desk.with(THREE);
        x.give(1, 1);
        x.give(1, 1);
        D.due("once", bits(x, "births=1"), 2);
        x.days(2);
        x.give(1, 1);
        D.due("twice", bits(x, "births=2"), 2);
    }

    private static void p36ItLivesSo() {
        SoulOffice x = Desk.with(THREE);
        D.due("nobody", bits(x, "as w"), 0);
        x.give(0, 0);
        D.due("a", bits(x, "as w"), 1);
        D.due("not as another KIND", bits(x, "as c"), 0);
        D.due("who wait", bits(x, "waits"), 6);
        x.days(3);
        D.due("not any more", bits(x, "as w"), 0);
    }

    private static void p36EachLivesAsItDoes() {
        SoulOffice x = Desk.with("kind k 9 9;kind l 9 9;kind m 9 9;soul a;soul b;soul c;soul d;soul e;");
        int[] kinds = {1, 2, 0, 1, 0};
        for (int s = 0; s < 5; s++) {
            x.give(s, kinds[s]);
        }
        D.due("as k", bits(x, "as k"), 20);
        D.due("as l", bits(x, "as l"), 9);
        D.due("as m", bits(x, "as m"), 2);
        D.due("as m or k", bits(x, "as m or as k"), 22);
        D.due("not as l", bits(x, "not as l"), 22);
    }

    private static void p36OfOneSoulAlone() {
        SoulOffice x = Desk.with("soul a;");
        D.due("and", bits(x, "waits and not waits"), 0);
        D.due("or", bits(x, "not waits or waits"), 1);
        D.due("not", bits(x, "not waits"), 0);
    }

    private static void p36ItOwes() {
        SoulOffice x = Desk.with(THREE);
        D.due("b and d owe a", bits(x, "owes a"), 6);
        D.due("a owes b", bits(x, "owes b"), 1);
        D.due("nobody owes d", bits(x, "owes d"), 0);
        x.give(0, 1);
        x.give(1, 1);
        x.days(1);
        D.due("a debt that is settled", bits(x, "owes b"), 0);
        x = Desk.with(EIGHT + "debt h a 1;debt a h 1;");
        D.due("1", bits(x, "owes a"), 128);
        D.due("1", bits(x, "owes h"), 1);
        D.due("nobody owes itself", bits(x, "owes a and owes h"), 0);
    }

    private static void p36AndBindsAheadOfOr() {
        SoulOffice x = Desk.with(EIGHT);
        D.due("or behind", bits(x, "place=0 and place=1 or place=2"), 4);
        D.due("or ahead", bits(x, "place=2 or place=0 and place=1"), 4);
        D.due("brackets", bits(x, "(place=2 or place=0) and place<1"), 1);
        D.due("three of each", bits(x, "place=1 or place=2 and place>1 and place<3 or place=4"), 22);
    }

    private static void p36NotIsOfOneOne() {
        SoulOffice x = Desk.with(EIGHT);
        D.due("and", bits(x, "not place=0 and place<2"), 2);
        D.due("or", bits(x, "not place=0 or place=0"), 255);
        D.due("a bracket", bits(x, "not (place=0 or place>1)"), 2);
        D.due("twice", bits(x, "not not place=3"), 8);
        D.due("all but one", bits(x, "not place=3"), 247);
        D.due("all", bits(x, "not place>7"), 255);
        D.due("none", bits(x, "not place<8"), 0);
    }

    private static void p36TheLargest() {
        SoulOffice x = Desk.with(EIGHT);
        D.due("twenty ONES", bits(x, "place=0" + " or as k".repeat(18) + " or place=7"), 129);
        D.due("eight within", bits(x, "not (not (not (not place=5)))"), 32);
        D.due("brackets opened late", bits(x, "place=0 or (place<9 and (place=3 or (place>4 and (place<6))))"), 41);
    }

    private static void p36OfWhatIsSoNow() {
        SoulOffice x = Desk.with(EIGHT);
        Desk.sentence(x, "waits");
        x.give(0, 0);
        D.due("seven", x.said(-1), 7);
        D.due("b", x.said(0), 1);
        x.undo();
        D.due("eight", x.said(-1), 8);
    }

    // ---- 37: image ----

    private static void p37NoSuchPlace() {
        SoulOffice x = Desk.with(THREE);
        for (int k : new int[] {-1, 2, 3, Integer.MIN_VALUE, Integer.MAX_VALUE}) {
            D.due("image(" + k + ")", x.image(k), false);
        }
        D.due("nothing is kept", x.restore(0), false);
        D.due("nothing is kept", x.restore(1), false);
    }

    private static void p37BothPlaces() {
        SoulOffice x = Desk.with(THREE);
        D.due("image(0)", x.image(0), true);
        x.days(1);
        D.due("image(1)", x.image(1), true);
        x.days(1);
        x.restore(0);
        D.due("DAY", x.now(0), 0);
        x.restore(1);
        D.due("DAY", x.now(0), 1);
    }

    private static void p37ANewObject() {
        SoulOffice x = new SoulOffice();
        D.due("image(0)", x.image(0), true);
        Desk.office(x, THREE);
        D.due("restore(0)", x.restore(0), true);
        D.due("KINDS", x.count(0), 0);
        D.due("SOULS", x.count(1), 0);
    }

    private static void p37KeptAnew() {
        SoulOffice x = Desk.with(THREE);
        x.image(0);
        x.days(3);
        x.image(0);
        x.days(3);
        x.restore(0);
        D.due("the latest", x.now(0), 3);
    }

    private static void p37AllStays() {
        SoulOffice x = Desk.with(THREE);
        x.days(1);
        Desk.text(x, "waits");
        x.image(0);
        D.due("DAY", x.now(0), 1);
        D.due("the tape", x.count(3), 5);
        D.due("what can be undone", x.undo(), 0);
    }

    // ---- 38: restore ----

    private static void p38NoSuchPlace() {
        SoulOffice x = Desk.with(THREE);
        x.image(0);
        x.image(1);
        x.days(1);
        for (int k : new int[] {-1, 2, 3, Integer.MIN_VALUE, Integer.MAX_VALUE}) {
            D.due("restore(" + k + ")", x.restore(k), false);
        }
        D.due("all stays", x.now(0), 1);
        D.due("what can be undone", x.undo(), 0);
    }

    private static void p38NothingIsKeptThere() {
        SoulOffice x = Desk.with(THREE);
        D.due("restore(0)", x.restore(0), false);
        x.image(1);
        x.days(1);
        D.due("restore(0)", x.restore(0), false);
        D.due("all stays", x.now(0), 1);
        D.due("restore(1)", x.restore(1), true);
        D.due("once more", x.restore(1), true);
    }

    private static void p38AllThatIsSo() {
        SoulOffice x = Desk.with(THREE);
        x.give(0, 1);
        x.give(1, 1);
        x.days(1);
        x.give(2, 2);
        x.image(0);
        x.clerk(9);
        x.restore(0);
        D.due("DAY", x.now(0), 1);
        D.due("debts", x.now(1), 8);
        D.due("settled", x.now(2), 10);
        D.due("grown", x.now(3), 2);
        D.due("who wait", x.now(4), 0);
        D.due("births", x.now(5), 3);
        D.due("pairs", x.now(6), 2);
        D.due("DAYS left", x.soul(0, 1), 1);
        D.due("today", x.soul(2, 7), 1);
        D.due("not today", x.soul(0, 7), 0);
        D.due("PLACES left", x.kind(2, 2), 0);
        D.due("settled latest", x.settled(0, 1), 10);
    }

    private static void p38TheLastOfEightAndOfSix() {
        SoulOffice x = Desk.with("kind u 9 1;kind v 9 1;kind w 9 1;kind x 9 1;kind y 9 1;kind z 9 1;meets z z 7;"
                + "soul a;soul b;soul c;soul d;soul e;soul f;soul g;soul h;only h z;wish h z;debt h g 9;debt g h 8;");
        x.give(7, 5);
        x.days(1);
        x.give(6, 5);
        x.days(1);
        x.give(5, 5);
        x.image(0);
        Desk.office(x, "kind k 1 1;");
        x.restore(0);
        D.due("DAYS", x.kind(5, 0), 9);
        D.due("PLACES left", x.kind(5, 2), 0);
        D.due("meets", x.meets(5, 5), 7);
        D.due("KINDS", x.soul(7, 3), 32);
        D.due("wish", x.soul(7, 4), 5);
        D.due("it lives", x.soul(7, 0), 5);
        D.due("DAYS left", x.soul(7, 1), 7);
        D.due("births", x.soul(7, 2), 1);
        D.due("today", x.soul(5, 7) * 10 + x.soul(7, 7), 10);
        D.due("debts", x.debt(6, 7) * 10 + x.debt(7, 6), 19);
        D.due("settled latest", x.settled(6, 7), 7);
        D.due("NAMES", Desk.book(x, 0, "h as z;"), 0);
        D.due("it does not wait", x.booked(0), 1);
    }

    private static void p38TheOffice() {
        SoulOffice x = Desk.with(THREE);
        x.image(0);
        Desk.office(x, "kind z 9 9;kind y 9 9;meets z z 1;soul q;wish q z;grows 9;");
        x.restore(0);
        D.due("KINDS", x.count(0), 3);
        D.due("SOULS", x.count(1), 3);
        D.due("grows", x.count(2), 1);
        D.due("DAYS", x.kind(0, 0), 3);
        D.due("PLACES", x.kind(0, 1), 1);
        D.due("meets", x.meets(0, 0) * 100 + x.meets(0, 1), 4);
        D.due("only", x.soul(2, 3), 4);
        D.due("wish", x.soul(1, 4), -1);
        D.due("a NAME of it", Desk.book(x, 0, "a as w;"), -1);
        D.due("no NAME of it", Desk.book(x, 0, "q as z;"), -2);
        D.due("a NAME of it", Desk.sentence(x, "as c"), 1);
    }

    private static void p38TheSentence() {
        SoulOffice x = Desk.with(THREE);
        x.image(0);
        Desk.sentence(x, "place=1");
        x.image(1);
        Desk.sentence(x, "waits");
        x.restore(1);
        D.due("as kept", x.said(-1), 1);
        x.restore(0);
        D.due("none was kept", x.said(-1), -1);
    }

    private static void p38TheTapeStays() {
        SoulOffice x = Desk.with(THREE);
        x.image(0);
        Desk.text(x, "day 1;");
        x.restore(0);
        D.due("bytes", x.count(3), 6);
        D.due("the same bytes", x.daybook(1), -1);
        D.due("DAY", x.now(0), 1);
    }

    private static void p38WhatOtherCallsToldLastStays() {
        SoulOffice x = Desk.with(THREE);
        x.image(0);
        x.most(3);
        Desk.were(x, 0, 1, 10);
        Desk.book(x, 0, "d as w;");
        Desk.sentence(x, "as q");
        x.restore(0);
        D.due("gives(0)", x.gives(0), 1);
        D.due("first(0)", x.first(0), 1);
        D.due("booked(0)", x.booked(0), 2);
        D.due("fault()", x.fault(), 3);
    }

    private static void p38NothingCanBeUndone() {
        SoulOffice x = Desk.with(THREE);
        x.days(1);
        x.image(0);
        x.days(1);
        x.restore(0);
        D.due("undo()", x.undo(), -1);
        D.due("DAY", x.now(0), 1);
    }

    private static void p38AFaultLeavesImages() {
        SoulOffice x = Desk.with(THREE);
        x.image(0);
        Desk.office(x, "kind");
        Desk.office(x, "");
        D.due("restore(0)", x.restore(0), true);
        D.due("KINDS", x.count(0), 3);
    }

    // ---- 39: count ----

    private static void p39AnotherWhat() {
        SoulOffice x = Desk.with(THREE);
        for (int what : new int[] {-1, 4, 5, Integer.MIN_VALUE, Integer.MAX_VALUE}) {
            D.due("count(" + what + ")", x.count(what), -1);
        }
    }

    private static void p39AsManyAsThereMayBe() {
        SoulOffice x = Desk.with("kind u 1 1;kind v 1 1;kind w 1 1;kind x 1 1;kind y 1 1;kind z 1 1;grows 9;"
                + "soul a;soul b;soul c;soul d;soul e;soul f;soul g;soul h;");
        D.due("KINDS", x.count(0), 6);
        D.due("SOULS", x.count(1), 8);
        D.due("grows", x.count(2), 9);
        for (int i = 0; i < 47; i++) {
            x.feed(0, 0, 0, 0, 0);
        }
        D.due("bytes", x.count(3), 940);
    }

    private static void p39None() {
        SoulOffice x = Desk.with("");
        for (int what = 0; what <= 3; what++) {
            D.due("count(" + what + ")", x.count(what), 0);
        }
    }
}
