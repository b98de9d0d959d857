/**
 * The boundary cases that the document names for what could be, appeals and years drawn (promises 17 to 32): each
 * has a test of its own. EdgesTest runs them.
 */
final class AskEdges {
    private static final Desk D = EdgesTest.DESK;
    private static final int[] NO_SUCH = {-1, -2, 6, 8, 9, 31, 32, 33, 64, Integer.MAX_VALUE, Integer.MIN_VALUE};
    private static final String THREE = "kind w 3 1;kind c 2 2;kind t 60 1;meets w c 4;meets c c 10;"
            + "soul a;soul b;soul d;only d t;wish a w;debt a b 9;debt b a 2;debt d a 5;grows 1;";
    // two who meet as k settle 5 a DAY
    private static final String TWO = "kind k 9 9;kind l 1 9;meets k k 5;soul a;soul b;";
    private static final String EIGHT = "kind k 60 9;soul a;soul b;soul c;soul d;soul e;soul f;soul g;soul h;";

    private AskEdges() {
    }

    private static SoulOffice atLastDay(String office) {
        SoulOffice x = Desk.with(office);
        for (int gone = 0; gone < 9960; gone += 60) {
            x.days(60);
        }
        D.due("the last DAY", x.days(39), 9999);
        return x;
    }

    // ---- 17: most ----

    private static void p17NotAsTold() {
        SoulOffice x = Desk.with(TWO + "debt a b 9;");
        for (int n : new int[] {0, -1, 31, 32, 60, Integer.MIN_VALUE, Integer.MAX_VALUE}) {
            D.due("most(" + n + ")", x.most(n), -1);
        }
    }

    private static void p17OneTo30Days() {
        SoulOffice x = Desk.with("kind k 60 9;meets k k 1;soul a;soul b;debt a b 99;");
        D.due("most(1)", x.most(1), 1);
        D.due("most(29)", x.most(29), 29);
        D.due("most(30)", x.most(30), 30);
    }

    private static void p17FiveWait() {
        SoulOffice x = Desk.with(EIGHT + "meets k k 1;debt d h 9;debt a b 9;");
        x.give(0, 0);
        x.give(1, 0);
        x.give(2, 0);
        D.due("five of eight", x.most(1), 2);
    }

    private static void p17MoreThanFiveWait() {
        SoulOffice x = Desk.with(EIGHT);
        D.due("eight", x.most(1), -1);
        x.give(0, 0);
        D.due("seven", x.most(1), -1);
        x.give(1, 0);
        D.due("six", x.most(1), -1);
        x = Desk.with(EIGHT.substring(0, EIGHT.length() - 14));
        D.due("six of six", x.most(30), -1);
    }

    private static void p17NobodyWaits() {
        SoulOffice x = Desk.with(TWO + "debt a b 12;");
        x.give(0, 0);
        x.give(1, 0);
        D.due("who live settle on", x.most(30), 12);
        D.due("by a DAY", x.most(1), 5);
    }

    private static void p17WithoutSoulsOrKinds() {
        SoulOffice x = new SoulOffice();
        D.due("nothing", x.most(1), 0);
        x = Desk.with("soul a;soul b;debt a b 9;");
        D.due("no KINDS", x.most(30), 0);
        x = Desk.with("kind k 1 1;");
        D.due("no SOULS", x.most(30), 0);
    }

    private static void p17NothingToSettle() {
        SoulOffice x = Desk.with(TWO);
        D.due("no debts", x.most(30), 0);
        D.due("not: ahead of all KINDS", x.gives(0), -1);
        D.due("not: ahead of all KINDS", x.gives(1), -1);
    }

    private static void p17NoMoreThanIsOwed() {
        SoulOffice x = Desk.with(TWO + "debt a b 3;debt b a 1;");
        D.due("3 and 1", x.most(30), 4);
    }

    private static void p17AsLongAsBothLive() {
        SoulOffice x = Desk.with("kind k 9 9;kind l 2 9;meets k l 5;soul a;soul b;only a k;only b l;debt a b 99;");
        D.due("two DAYS", x.most(30), 10);
        x.give(0, 0);
        x.days(8);
        D.due("one DAY is left", x.most(30), 5);
    }

    private static void p17NobodyMoreIsGivenOut() {
        SoulOffice x = Desk.with("kind k 1 9;meets k k 5;soul a;soul b;debt a b 99;");
        x.give(0, 0);
        D.due("a lives today alone", x.most(30), 5);
        x.give(1, 0);
        D.due("both live today alone", x.most(30), 5);
    }

    private static void p17PlacesLeftToday() {
        SoulOffice x = Desk.with("kind k 9 2;meets k k 5;soul a;soul b;soul c;debt a c 9;debt b c 99;");
        D.due("two PLACES", x.most(1), 5);
        x.give(0, 0);
        D.due("one PLACE", x.most(1), 5);
        x.undo();
        x.give(0, 0);
        x.give(1, 0);
        D.due("none", x.most(1), 0);
        x.days(1);
        D.due("two again", x.most(1), 10);
    }

    private static void p17WhatTheyMayBe() {
        SoulOffice x = Desk.with(TWO + "only b l;debt a b 9;");
        D.due("b may not be k", x.most(30), 0);
    }

    private static void p17DebtsGrow() {
        SoulOffice x = Desk.with(TWO + "debt a b 6;debt b a 1;grows 2;");
        // 5, leaving 1 + 2 and 1 + 2; 3 + 2, leaving 0 and 1 + 2; 3
        D.due("three DAYS", x.most(3), 13);
        D.due("settled whole: nothing grows", x.most(30), 13);
    }

    private static void p17ADebtOf1() {
        SoulOffice x = Desk.with(TWO + "debt b a 1;");
        D.due("1", x.most(1), 1);
        x = Desk.with(TWO + "debt a b 6;");
        D.due("5, then 1", x.most(2), 6);
    }

    private static void p17FiveBySixKinds() {
        SoulOffice x = Desk.with("kind u 9 9;kind v 9 9;kind w 9 9;kind x 9 9;kind y 9 9;kind z 9 5;meets z z 7;meets u z 6;"
                + "soul a;soul b;soul c;soul d;soul e;debt a e 99;debt b d 99;debt c e 99;");
        D.due("all as z", x.most(1), 21);
        for (int s = 0; s < 5; s++) {
            D.due("gives(" + s + ")", x.gives(s), 5);
        }
        x = Desk.with("kind u 9 9;kind v 9 9;kind w 9 9;kind x 9 9;kind y 9 9;kind z 9 1;meets z z 7;meets u z 6;"
                + "soul a;soul b;soul c;soul d;soul e;debt a e 99;debt b d 99;debt c e 99;");
        D.due("e alone as z", x.most(1), 12);
        D.due("a as u", x.gives(0), 0);
        D.due("b is not", x.gives(1), -1);
        D.due("c as u", x.gives(2), 0);
        D.due("d is not", x.gives(3), -1);
        D.due("e as z", x.gives(4), 5);
    }

    private static void p17BothWithOneWhoLives() {
        SoulOffice x = Desk.with("kind k 9 9;meets k k 3;soul a;soul b;soul c;debt a b 99;debt c a 99;");
        x.give(0, 0);
        D.due("3 each", x.most(1), 6);
        D.due("b", x.gives(1), 0);
        D.due("c", x.gives(2), 0);
    }

    private static void p17AWayThatBeginsWithLess() {
        // a as l settles with c, who lives; a as k with b alone, by more
        SoulOffice x = Desk.with("kind k 9 9;kind l 9 9;kind m 9 9;meets l m 3;meets k k 5;soul a;soul b;soul c;only b k;"
                + "debt a b 99;debt c a 99;");
        x.give(2, 2);
        D.due("5, not 3", x.most(1), 5);
        D.due("a as k", x.gives(0), 0);
        D.due("b as k", x.gives(1), 0);
        x = Desk.with("kind k 9 9;kind l 9 9;kind m 9 9;meets l m 3;meets k k 5;soul a;soul b;soul c;only b k;"
                + "debt a b 2;debt c a 99;");
        x.give(2, 2);
        D.due("3, not 2", x.most(1), 3);
        D.due("a as l", x.gives(0), 1);
        D.due("b is not", x.gives(1), -1);
    }

    private static final String MET = "kind w 3 9;kind c 5 9;kind t 2 9;meets w c 2;meets c t 3;meets w t 4;"
            + "soul a;soul b;soul d;";

    private static void p17ThreeWhoLive() {
        SoulOffice x = givenInTurn(MET + "debt a b 30;debt d b 30;debt d a 30;debt b a 1;", 0, 1, 2);
        D.due("3 DAYS, 2 and 2", x.most(10), 6 + 8 + 6);
        D.due("a DAY", x.most(1), 2 + 4 + 3);
        x.days(1);
        D.due("2 DAYS left, 1 and 1", x.most(10), 4 + 4 + 3);
        x.days(1);
        D.due("d waits; as t it settles 4 with a, 6 with b", x.most(10), 2 + 4 + 6);
        D.due("d as t", x.gives(2), 2);
    }

    private static void p17EachWhoWaitsWithEachWhoLives() {
        SoulOffice x = Desk.with(MET + "soul e;debt b d 5;debt d b 4;debt e d 7;debt a e 2;debt a b 9;");
        x.give(1, 0);
        x.give(3, 2);
        D.due("d by 6 and 6, a by 6 and 2", x.most(10), 20);
        D.due("a", x.gives(0), 1);
        D.due("b lives", x.gives(1), -1);
        D.due("d", x.gives(2), 1);
        D.due("e lives", x.gives(3), -1);
    }

    private static void p17AllStays() {
        SoulOffice x = Desk.with(TWO + "debt a b 9;");
        x.most(30);
        D.due("DAY", x.now(0), 0);
        D.due("births", x.now(5), 0);
        D.due("debts", x.now(1), 9);
        D.due("PLACES left", x.kind(0, 2), 9);
    }

    private static void p17BehindTheLastDay() {
        SoulOffice x = atLastDay(TWO + "debt a b 9;");
        D.due("it looks on", x.most(30), 9);
    }

    // ---- 18: gives ----

    private static void p18AheadOfAny() {
        SoulOffice x = Desk.with(EIGHT);
        for (int s = 0; s < 8; s++) {
            D.due("gives(" + s + ")", x.gives(s), -1);
        }
        D.due("eight wait", x.most(1), -1);
        D.due("gives(0)", x.gives(0), -1);
    }

    private static void p18NoSuchOneOfTheLatest() {
        SoulOffice x = Desk.with(EIGHT + "meets k k 1;debt d h 9;");
        x.give(0, 0);
        x.give(1, 0);
        x.give(2, 0);
        x.most(1);
        D.due("h", x.gives(7), 0);
        Desk.office(x, TWO + "debt a b 9;");
        x.most(1);
        D.due("b", x.gives(1), 0);
        for (int s = 2; s < 8; s++) {
            D.due("gives(" + s + ")", x.gives(s), -1);
        }
    }

    private static void p18NoSuchOne() {
        SoulOffice x = Desk.with(TWO + "debt a b 9;");
        x.most(1);
        D.due("gives(1)", x.gives(1), 0);
        D.due("gives(2)", x.gives(2), -1);
        for (int s : NO_SUCH) {
            D.due("gives(" + s + ")", x.gives(s), -1);
        }
    }

    private static void p18Not() {
        SoulOffice x = Desk.with(TWO + "soul c;debt a c 9;");
        x.most(1);
        D.due("a", x.gives(0), 0);
        D.due("b is not", x.gives(1), -1);
        D.due("c", x.gives(2), 0);
        x.give(0, 0);
        x.most(1);
        D.due("a lives already", x.gives(0), -1);
        D.due("c", x.gives(2), 0);
    }

    private static void p18TheLastOfEight() {
        SoulOffice x = Desk.with(EIGHT + "meets k k 1;debt d h 9;");
        x.give(0, 0);
        x.give(1, 0);
        x.give(2, 0);
        x.most(1);
        D.due("d", x.gives(3), 0);
        D.due("h", x.gives(7), 0);
        D.due("gives(8)", x.gives(8), -1);
    }

    private static void p18OfTheLatestThatWasNotNone() {
        SoulOffice x = Desk.with("kind x 1 9;kind y 10 9;meets x x 10;meets y y 3;soul a;soul b;debt a b 100;");
        x.most(1);
        D.due("by a DAY", x.gives(0), 0);
        x.most(9);
        D.due("by nine", x.gives(0), 1);
        x.most(31);
        x.most(0);
        D.due("NONE leaves it", x.gives(0), 1);
        D.due("NONE leaves it", x.gives(1), 1);
        Desk.office(x, EIGHT);
        x.most(1);
        D.due("more than five leave it", x.gives(0), 1);
    }

    private static void p18WhatWasToldLastStays() {
        SoulOffice x = Desk.with(TWO + "debt a b 9;");
        x.image(0);
        x.most(1);
        x.give(0, 1);
        D.due("behind give()", x.gives(0), 0);
        x.undo();
        D.due("behind undo()", x.gives(0), 0);
        Desk.office(x, "soul a;");
        D.due("behind an OFFICE", x.gives(1), 0);
        Desk.office(x, "");
        D.due("behind an OFFICE without SOULS", x.gives(1), 0);
        x.restore(0);
        D.due("behind restore()", x.gives(1), 0);
    }

    private static void p18OfLikeWaysNotAheadOfAll() {
        SoulOffice x = Desk.with("kind k 9 9;meets k k 5;soul a;soul b;soul c;debt a b 5;debt a c 5;debt b c 5;");
        // a and b, a and c, b and c settle 5 each: all three, 15
        D.due("most", x.most(1), 15);
        x = Desk.with("kind k 9 2;meets k k 5;soul a;soul b;soul c;debt a b 5;debt a c 5;debt b c 5;");
        D.due("most by two PLACES", x.most(1), 5);
        D.due("not a", x.gives(0), -1);
        D.due("b", x.gives(1), 0);
        D.due("c", x.gives(2), 0);
    }

    private static void p18OfLikeWaysTheFirstKinds() {
        SoulOffice x = Desk.with("kind k 9 9;kind l 9 9;kind m 9 9;meets l m 5;meets m m 5;soul a;soul b;debt a b 5;");
        D.due("most", x.most(1), 5);
        D.due("a as l", x.gives(0), 1);
        D.due("b as m", x.gives(1), 2);
    }

    private static void p18OfLikeWaysSoulBySoul() {
        // a as k with b as l, or a as l with b as k, comes to the same
        SoulOffice x = Desk.with("kind k 9 1;kind l 9 1;meets k l 5;soul a;soul b;debt a b 5;");
        x.most(1);
        D.due("a as k", x.gives(0), 0);
        D.due("b as l", x.gives(1), 1);
    }

    // ---- 19: hopeless ----

    private static void p19HowManyOfNone() {
        SoulOffice x = Desk.with(TWO + "debt a b 9;");
        D.due("how many", x.hopeless(-1), 0);
        D.due("the first", x.hopeless(0), -1);
    }

    private static void p19NoneSuch() {
        SoulOffice x = Desk.with(THREE);
        D.due("how many", x.hopeless(-1), 1);
        D.due("the first", x.hopeless(0), 20);
        for (int k : new int[] {1, 2, -2, Integer.MIN_VALUE, Integer.MAX_VALUE}) {
            D.due("hopeless(" + k + ")", x.hopeless(k), -1);
        }
    }

    private static void p19Rising() {
        SoulOffice x = Desk.with("soul a;soul b;soul c;debt c b 1;debt b a 1;debt a c 1;debt c a 1;");
        D.due("how many", x.hopeless(-1), 4);
        D.due("first", x.hopeless(0), 2);
        D.due("second", x.hopeless(1), 10);
        D.due("third", x.hopeless(2), 20);
        D.due("fourth", x.hopeless(3), 21);
    }

    private static void p19MeetingFor0() {
        SoulOffice x = Desk.with("kind k 1 1;meets k k 0;soul a;soul b;debt a b 1;");
        D.due("settles nothing", x.hopeless(0), 1);
        x = Desk.with("kind k 1 1;meets k k 1;soul a;soul b;debt a b 1;");
        D.due("settles", x.hopeless(0), -1);
    }

    private static void p19KindsTheyMayBe() {
        String laws = "kind k 1 1;kind l 1 1;meets k l 1;soul a;soul b;debt a b 1;";
        D.due("all", Desk.with(laws).hopeless(-1), 0);
        D.due("a as l, b as k", Desk.with(laws + "only a l;only b k;").hopeless(-1), 0);
        D.due("both k alone", Desk.with(laws + "only a k;only b k;").hopeless(-1), 1);
        D.due("a as k, b as both", Desk.with(laws + "only a k;only b k l;").hopeless(-1), 0);
    }

    private static void p19DebtsThatAreThereNow() {
        SoulOffice x = Desk.with("kind k 1 9;kind l 1 9;meets k l 5;soul a;soul b;soul c;only c k;only b k;"
                + "debt b c 4;debt a b 5;");
        D.due("b to c", x.hopeless(0), 12);
        x.give(0, 1);
        x.give(1, 0);
        x.days(1);
        D.due("a debt that is settled", x.now(1), 4);
        D.due("one", x.hopeless(-1), 1);
    }

    private static void p19TheLastOfEight() {
        SoulOffice x = Desk.with(EIGHT + "debt h g 1;");
        D.due("h to g", x.hopeless(0), 76);
        D.due("how many", x.hopeless(-1), 1);
        D.due("the second", x.hopeless(1), -1);
    }

    // ---- 20: net ----

    private static void p20NoSuchOne() {
        SoulOffice x = Desk.with(THREE);
        D.throwsNet(x, 3);
        for (int s : NO_SUCH) {
            D.throwsNet(x, s);
        }
        D.throwsNet(new SoulOffice(), 0);
    }

    private static void p20ACallThatThrowsChangesNothing() {
        SoulOffice x = Desk.with(THREE);
        x.give(0, 0);
        D.throwsNet(x, 3);
        D.throwsNet(x, -1);
        D.due("all debts", x.now(1), 16);
        D.due("births", x.now(5), 1);
        D.due("what can be undone", x.undo(), 0);
    }

    private static void p20OwedLessOwes() {
        SoulOffice x = Desk.with(THREE);
        D.due("7 less 9", x.net(0), -2);
        D.due("9 less 2", x.net(1), 7);
        D.due("0 less 5", x.net(2), -5);
        x = Desk.with("soul a;soul b;debt a b 4;debt b a 4;");
        D.due("4 less 4", x.net(0), 0);
    }

    // ---- 21, 22: fewest, groups ----

    private static void p21NobodyOwes() {
        D.due("a new object", new SoulOffice().fewest(), 0);
        D.due("no debts", Desk.with(EIGHT).fewest(), 0);
    }

    private static void p21NetsOf0AreLeftOut() {
        SoulOffice x = Desk.with("soul a;soul b;soul c;debt a b 5;debt b c 5;");
        D.due("a to c", x.fewest(), 1);
        x = Desk.with("soul a;soul b;soul c;debt a b 5;debt b c 5;debt c a 5;");
        D.due("all come to 0", x.fewest(), 0);
    }

    private static void p21EightInOneGroup() {
        SoulOffice x = Desk.with(EIGHT + "debt a h 1;debt b h 2;debt c h 4;debt d h 8;debt e h 16;debt f h 32;debt g h 64;");
        D.due("seven", x.fewest(), 7);
        D.due("one group", x.groups(), 1);
    }

    private static void p21EightInPairs() {
        SoulOffice x = Desk.with(EIGHT + "debt a e 5;debt b f 5;debt g c 5;debt d h 7;");
        D.due("four", x.fewest(), 4);
        D.due("four groups", x.groups(), 4);
    }

    private static void p22NobodyOwes() {
        D.due("a new object", new SoulOffice().groups(), 0);
        D.due("no debts", Desk.with(EIGHT).groups(), 0);
        D.due("all come to 0", Desk.with("soul a;soul b;debt a b 5;debt b a 5;").groups(), 0);
    }

    private static void p22TheMost() {
        // what each is owed: 3 -1 -2, and -2 2
        SoulOffice x = Desk.with(EIGHT + "debt b a 1;debt c a 2;debt d e 2;");
        D.due("two groups", x.groups(), 2);
        D.due("three debts", x.fewest(), 3);
        // 4 4 4 4 -8 -8
        x = Desk.with(EIGHT + "debt e a 4;debt e b 4;debt f c 4;debt f d 4;");
        D.due("two groups", x.groups(), 2);
        D.due("four debts", x.fewest(), 4);
    }

    private static void p22AskedAnew() {
        SoulOffice x = Desk.with("soul a;soul b;soul d;debt a b 2;debt a d 3;");
        D.due("5 less, 2 and 3", x.groups(), 1);
        D.due("once more", x.groups(), 1);
        Desk.office(x, "soul a;soul b;soul d;debt a b 2;");
        D.due("2 less and 2", x.groups(), 1);
        D.due("a debt", x.fewest(), 1);
    }

    // ---- 23: were ----

    private static void p23NoBytes() {
        SoulOffice x = Desk.with(THREE);
        D.due("were(0, 1)", x.were(0, 1), -1);
    }

    private static void p23OneTo30Bytes() {
        SoulOffice x = Desk.with(THREE);
        D.due("one", Desk.were(x, 0, 2, new int[1]), 30);
        D.due("thirty", Desk.were(x, 0, 2, new int[30]), 30);
    }

    private static void p23MoreThan30Bytes() {
        SoulOffice x = Desk.with(THREE);
        D.due("31", Desk.were(x, 0, 2, new int[31]), -1);
        D.due("940", Desk.were(x, 0, 2, new int[940]), -1);
    }

    private static void p23Alike() {
        SoulOffice x = Desk.with(THREE);
        D.due("were(0, 0)", Desk.were(x, 0, 0, 0), -1);
        D.due("were(2, 2)", Desk.were(x, 2, 2, 0), -1);
    }

    private static void p23NoSuchOnes() {
        SoulOffice x = Desk.with(THREE);
        D.due("were(0, 3)", Desk.were(x, 0, 3, 0), -1);
        D.due("were(3, 0)", Desk.were(x, 3, 0, 0), -1);
        for (int s : NO_SUCH) {
            D.due("were(0, " + s + ")", Desk.were(x, 0, s, 0), -1);
            D.due("were(" + s + ", 0)", Desk.were(x, s, 0, 0), -1);
        }
    }

    private static void p23TheTapeIsEmptyThen() {
        SoulOffice x = Desk.with(THREE);
        Desk.were(x, 0, 1, 10);
        D.due("some ways", x.count(3), 0);
        Desk.were(x, 0, 1, 77);
        D.due("no way", x.count(3), 0);
        Desk.were(x, 0, 0, 10);
        D.due("alike", x.count(3), 0);
        Desk.were(x, 0, 9, 10);
        D.due("no such one", x.count(3), 0);
        Desk.were(x, 0, 1, new int[31]);
        D.due("not as told", x.count(3), 0);
    }

    private static void p23UpTo9DaysBehind() {
        SoulOffice x = Desk.with("kind k 60 1;meets k k 99;soul a;soul b;");
        D.due("together", Desk.were(x, 0, 1, 99), 1);
        D.due("nine DAYS behind", Desk.were(x, 0, 1, 0, 0, 0, 0, 0, 0, 0, 0, 0, 99), 1);
        D.due("ten DAYS behind", Desk.were(x, 0, 1, 0, 0, 0, 0, 0, 0, 0, 0, 0, 0, 99), 0);
        D.due("one to nine DAYS behind", Desk.were(x, 0, 1, 0), 9);
    }

    private static void p23BothLivesOnce() {
        SoulOffice x = Desk.with("kind k 3 9;kind l 2 9;meets k l 7;soul a;soul b;only a k;only b l;");
        D.due("two DAYS together", Desk.were(x, 0, 1, 7, 7), 1);
        D.due("then nothing", Desk.were(x, 0, 1, 7, 7, 0, 0, 0), 1);
        D.due("not again", Desk.were(x, 0, 1, 7, 7, 0, 7), 0);
        D.due("the first one's last DAY", Desk.were(x, 0, 1, 0, 0, 7, 0), 1);
        D.due("behind the first one's life", Desk.were(x, 0, 1, 0, 0, 0, 7), 0);
        D.due("never together: 3 to 9 DAYS behind", Desk.were(x, 0, 1, 0, 0, 0), 7);
    }

    private static void p23TheSecondOneIsBehind() {
        SoulOffice x = Desk.with("kind k 3 9;kind l 3 9;meets k l 7;soul a;soul b;only a k;only b l;");
        D.due("b behind a", Desk.were(x, 0, 1, 0, 7, 7, 0), 1);
        D.due("a behind b", Desk.were(x, 1, 0, 0, 7, 7, 0), 1);
        D.due("b is never ahead of a", Desk.were(x, 0, 1, 7, 7, 0), 0);
    }

    private static void p23AsLongAsThereIsEnough() {
        SoulOffice x = Desk.with(TWO);
        D.due("no debts there are", Desk.were(x, 0, 1, 5, 5), 1);
    }

    private static void p23WhatTheyMayBe() {
        SoulOffice x = Desk.with(TWO + "only b l;");
        D.due("b may not be k", Desk.were(x, 0, 1, 5), 0);
        D.due("nothing, as l alone", Desk.were(x, 0, 1, 0), 20);
    }

    private static void p23BytesAreNeverBelow0() {
        SoulOffice x = Desk.with(TWO);
        D.due("255", Desk.were(x, 0, 1, 255), 0);
        D.due("261 less 256", Desk.were(x, 0, 1, 133), 0);
    }

    private static void p23WithoutKinds() {
        SoulOffice x = Desk.with("soul a;soul b;");
        D.due("no way", Desk.were(x, 0, 1, 0), 0);
    }

    // ---- 24: first ----

    private static void p24AheadOfAny() {
        SoulOffice x = Desk.with(TWO);
        for (int what = 0; what <= 2; what++) {
            D.due("first(" + what + ")", x.first(what), -1);
        }
        Desk.were(x, 0, 1, 77);
        Desk.were(x, 0, 0, 5);
        D.due("none was 1 or more", x.first(0), -1);
    }

    private static void p24AnotherWhat() {
        SoulOffice x = Desk.with(TWO);
        Desk.were(x, 0, 1, 5);
        D.due("first(2)", x.first(2), 0);
        for (int what : new int[] {-1, 3, Integer.MIN_VALUE, Integer.MAX_VALUE}) {
            D.due("first(" + what + ")", x.first(what), -1);
        }
    }

    private static void p24OfTheLatestThatWas1OrMore() {
        SoulOffice x = Desk.with(TWO);
        Desk.were(x, 0, 1, 0, 5);
        D.due("a DAY behind", x.first(2), 1);
        Desk.were(x, 0, 1, 77);
        D.due("0 leaves it", x.first(2), 1);
        Desk.were(x, 0, 0, 5);
        x.were(0, 1);
        D.due("NONE leaves it", x.first(2), 1);
        Desk.were(x, 0, 1, 5);
        D.due("another one", x.first(2), 0);
    }

    private static void p24TheFirstWay() {
        SoulOffice x = Desk.with("kind j 1 9;kind k 9 9;kind l 9 9;meets k l 5;meets l l 5;meets l j 5;soul a;soul b;");
        // k with l, l with k, l with l
        D.due("three ways", Desk.were(x, 0, 1, 0, 5, 5), 3);
        D.due("the first one's KIND", x.first(0), 1);
        D.due("then the second one's", x.first(1), 2);
        D.due("then how many DAYS", x.first(2), 1);
        Desk.were(x, 0, 1, 0);
        D.due("j with j", x.first(0) * 10 + x.first(1), 0);
        D.due("together", x.first(2), 0);
    }

    private static void p24WhatWasToldLastStays() {
        SoulOffice x = Desk.with(TWO);
        x.image(0);
        Desk.were(x, 0, 1, 0, 0, 5);
        Desk.office(x, "");
        D.due("behind an OFFICE", x.first(2), 2);
        x.restore(0);
        D.due("behind restore()", x.first(2), 2);
    }

    // ---- 25: appeal ----

    // six who live as six KINDS, a as the first; each can go on to the next one alone
    private static final String ROUND = "kind u 9 1;kind v 9 1;kind w 9 1;kind x 9 1;kind y 9 1;kind z 9 1;"
            + "soul a;soul b;soul c;soul d;soul e;soul f;only b v w;only c w x;only d x y;only e y z;";

    // the same the other way round
    private static final String BACK = "kind u 9 1;kind v 9 1;kind w 9 1;kind x 9 1;kind y 9 1;kind z 9 1;"
            + "soul a;soul b;soul c;soul d;soul e;soul f;only a u z;only b v u;only c w v;only d x w;only e y x;only f z y;";

    private static SoulOffice givenInTurn(String office, int... kinds) {
        SoulOffice x = Desk.with(office);
        for (int s = 0; s < kinds.length; s++) {
            D.due("give(" + s + ", " + kinds[s] + ")", x.give(s, kinds[s]), 0);
        }
        return x;
    }

    private static void p25NoSuchOnes() {
        SoulOffice x = givenInTurn(TWO, 0, 0);
        D.due("appeal(2, 0)", x.appeal(2, 0), -1);
        D.due("appeal(0, 2)", x.appeal(0, 2), -1);
        for (int n : NO_SUCH) {
            D.due("appeal(" + n + ", 0)", x.appeal(n, 0), -1);
            D.due("appeal(0, " + n + ")", x.appeal(0, n), -1);
        }
    }

    private static void p25ItWaits() {
        SoulOffice x = givenInTurn(TWO, 0);
        D.due("appeal(1, 0)", x.appeal(1, 0), -1);
    }

    private static void p25GivenOutOnAnotherDay() {
        SoulOffice x = givenInTurn(TWO, 0);
        x.days(1);
        D.due("as another", x.appeal(0, 1), -1);
        D.due("as it is", x.appeal(0, 0), -1);
    }

    private static void p25ItMayNotBeThat() {
        SoulOffice x = givenInTurn(TWO + "only a k;", 0, 0);
        D.due("appeal(0, 1)", x.appeal(0, 1), -1);
    }

    private static void p25ItIsThat() {
        SoulOffice x = givenInTurn("kind k 9 1;soul a;", 0);
        D.due("none is changed", x.appeal(0, 0), 0);
    }

    private static void p25TheOneItselfIsCounted() {
        SoulOffice x = givenInTurn(TWO, 0, 0);
        D.due("it alone", x.appeal(0, 1), 1);
    }

    private static void p25ItCannotBe() {
        SoulOffice x = givenInTurn("kind k 9 1;kind l 9 1;soul a;soul b;only b l;", 0, 1);
        D.due("b has to stay", x.appeal(0, 1), -1);
    }

    private static void p25OthersGoWhereTheyMay() {
        SoulOffice x = givenInTurn("kind k 9 1;kind l 9 1;soul a;soul b;", 0, 1);
        D.due("b as k, which a leaves", x.appeal(0, 1), 2);
        x = givenInTurn("kind k 9 2;kind l 9 1;kind m 9 9;soul a;soul b;only b l m;", 0, 1);
        D.due("b as m", x.appeal(0, 1), 2);
    }

    private static void p25OthersOfOtherDaysStay() {
        SoulOffice x = givenInTurn("kind k 9 1;kind l 9 1;soul a;soul b;soul c;", 0, 1);
        x.days(1);
        x.give(2, 0);
        D.due("b takes no PLACE today", x.appeal(2, 1), 1);
        x = givenInTurn("kind k 9 1;kind l 9 1;soul a;soul b;soul c;only b l;", 0);
        x.days(1);
        x.give(1, 1);
        x.give(2, 0);
        D.due("a has no PLACE to leave, b has to stay", x.appeal(2, 1), -1);
    }

    private static void p25AllSixInTurn() {
        SoulOffice x = givenInTurn(ROUND + "only f z u;", 0, 1, 2, 3, 4, 5);
        D.due("all six", x.appeal(0, 1), 6);
        D.due("five", x.appeal(0, 2), 5);
        D.due("two", x.appeal(0, 5), 2);
    }

    private static void p25EachOfAllSixInTurn() {
        for (int s = 0; s < 6; s++) {
            SoulOffice x = givenInTurn(ROUND + "only a u v;only f z u;", 0, 1, 2, 3, 4, 5);
            D.due("all six for " + s, x.appeal(s, (s + 1) % 6), 6);
            x = givenInTurn(BACK, 0, 1, 2, 3, 4, 5);
            D.due("all six back for " + s, x.appeal(s, (s + 5) % 6), 6);
        }
    }

    private static void p25KindsOfOtherNumbersThanTheirSouls() {
        SoulOffice x = givenInTurn("kind k 9 1;kind l 9 1;soul a;soul b;", 1, 0);
        D.due("b as l, a as k", x.appeal(1, 1), 2);
        D.due("a as k, b as l", x.appeal(0, 0), 2);
        x = givenInTurn("kind k 9 1;kind l 9 1;kind m 9 2;soul a;soul b;soul c;only b l m;", 2, 1, 0);
        D.due("a as l, b as m", x.appeal(0, 1), 2);
        D.due("c as l, b as m", x.appeal(2, 1), 2);
    }

    private static void p25WhoOfAnotherDayHasTheKindCannotGo() {
        SoulOffice x = givenInTurn("kind k 9 1;kind l 9 1;kind m 9 1;soul a;soul b;soul c;only c k;only b l k;", 0);
        x.days(1);
        x.give(2, 0);
        x.give(1, 1);
        D.due("a could be m, but c has the PLACE", x.appeal(1, 0), -1);
        D.due("nor is it granted", x.grant(1, 0), false);
    }

    private static void p25AllSixInTurnButTheLast() {
        SoulOffice x = givenInTurn(ROUND + "only f z;", 0, 1, 2, 3, 4, 5);
        D.due("f has to stay", x.appeal(0, 1), -1);
        D.due("f has to stay", x.appeal(0, 5), -1);
    }

    private static void p25TheFewest() {
        // c could go on to d's PLACE, d to the one that is left; b goes at once
        SoulOffice x = givenInTurn("kind k 9 1;kind l 9 2;kind m 9 1;kind n 9 2;soul a;soul b;soul c;soul d;"
                + "only b l n;only c l m;only d m n;", 0, 1, 1, 2);
        D.due("b goes", x.appeal(0, 1), 2);
        x = givenInTurn("kind k 9 1;kind l 9 2;kind m 9 1;kind n 9 2;soul a;soul b;soul c;soul d;"
                + "only b l;only c l m;only d m n;", 0, 1, 1, 2);
        D.due("c and d go", x.appeal(0, 1), 3);
    }

    private static void p25NothingHappens() {
        SoulOffice x = givenInTurn("kind k 9 1;kind l 9 1;soul a;soul b;", 0, 1);
        x.appeal(0, 1);
        D.due("a", x.soul(0, 0), 0);
        D.due("b", x.soul(1, 0), 1);
        D.due("what can be undone", x.undo(), 1);
    }

    // ---- 26: grant ----

    private static void p26AsAppealIsNone() {
        SoulOffice x = givenInTurn("kind k 9 1;kind l 9 1;soul a;soul b;soul c;only b l;", 0, 1);
        D.due("it can't be", x.grant(0, 1), false);
        D.due("it may not", x.grant(1, 0), false);
        D.due("it waits", x.grant(2, 0), false);
        D.due("grant(3, 0)", x.grant(3, 0), false);
        D.due("grant(0, 2)", x.grant(0, 2), false);
        D.due("grant(-1, 0)", x.grant(-1, 0), false);
        D.due("grant(0, -1)", x.grant(0, -1), false);
        D.due("the greatest", x.grant(Integer.MAX_VALUE, Integer.MIN_VALUE), false);
        D.due("a", x.soul(0, 0), 0);
        D.due("b", x.soul(1, 0), 1);
        D.due("nothing was done", x.undo(), 1);
        x.days(1);
        D.due("another DAY", x.grant(0, 1), false);
    }

    private static void p26AsAppealIs0() {
        SoulOffice x = givenInTurn(TWO, 0, 0);
        D.due("it is that", x.grant(0, 0), false);
        D.due("nothing was done", x.undo(), 1);
    }

    private static void p26WhatIsSoThen() {
        SoulOffice x = givenInTurn("kind k 9 1;kind l 5 2;soul a;soul b;", 0, 1);
        D.due("grant(0, 1)", x.grant(0, 1), true);
        D.due("the KIND", x.soul(0, 0), 1);
        D.due("its DAYS", x.soul(0, 1), 5);
        D.due("births", x.soul(0, 2), 1);
        D.due("today", x.soul(0, 7), 1);
        D.due("the PLACE that it left", x.kind(0, 2), 1);
        D.due("no PLACE is left", x.kind(1, 2), 0);
        D.due("granted once", x.grant(0, 1), false);
        D.due("back again", x.grant(0, 0), true);
    }

    private static void p26AllSixInTurn() {
        SoulOffice x = givenInTurn(ROUND + "only f z u;", 0, 1, 2, 3, 4, 5);
        D.due("grant(0, 1)", x.grant(0, 1), true);
        for (int s = 0; s < 6; s++) {
            D.due("SOUL " + s, x.soul(s, 0), (s + 1) % 6);
        }
    }

    private static void p26EachOfAllSixInTurn() {
        for (int asker = 0; asker < 6; asker++) {
            SoulOffice x = givenInTurn(ROUND + "only a u v;only f z u;", 0, 1, 2, 3, 4, 5);
            D.due("granted", x.grant(asker, (asker + 1) % 6), true);
            SoulOffice y = givenInTurn(BACK, 0, 1, 2, 3, 4, 5);
            D.due("granted", y.grant(asker, (asker + 5) % 6), true);
            for (int s = 0; s < 6; s++) {
                D.due("SOUL " + s + " for " + asker, x.soul(s, 0), (s + 1) % 6);
                D.due("SOUL " + s + " back for " + asker, y.soul(s, 0), (s + 5) % 6);
            }
        }
    }

    private static void p26OfLikeWaysWhoStaysAsItIs() {
        // b or c goes on as k; b stays
        SoulOffice x = givenInTurn("kind k 9 1;kind l 9 2;soul a;soul b;soul c;", 0, 1, 1);
        D.due("two", x.appeal(0, 1), 2);
        x.grant(0, 1);
        D.due("b stays", x.soul(1, 0), 1);
        D.due("c goes on", x.soul(2, 0), 0);
    }

    private static void p26OfLikeWaysTheFirstKind() {
        SoulOffice x = givenInTurn("kind k 9 9;kind l 9 1;kind m 9 9;kind n 9 9;soul a;soul b;only b l m n;", 0, 1);
        x.grant(0, 1);
        D.due("b as m", x.soul(1, 0), 2);
        x = givenInTurn("kind k 9 9;kind l 9 9;kind m 9 1;kind n 9 9;soul a;soul b;", 3, 2);
        x.grant(0, 2);
        D.due("b as k", x.soul(1, 0), 0);
    }

    private static void p26OfLikeWaysSoulBySoul() {
        // d takes l from b, b can but take k from a; a takes m from c, c then k, or n, which d leaves: the fewest
        SoulOffice x = givenInTurn("kind k 9 1;kind l 9 1;kind m 9 1;kind n 9 1;soul a;soul b;soul c;soul d;"
                + "only a k m n;only b l k;only c m k;", 0, 1, 2, 3);
        D.due("three", x.appeal(3, 1), 3);
        x.grant(3, 1);
        D.due("a as n, which d leaves", x.soul(0, 0), 3);
        D.due("b", x.soul(1, 0), 0);
        D.due("c stays", x.soul(2, 0), 2);
        D.due("d", x.soul(3, 0), 1);
    }

    private static void p26OthersOfOtherDaysStay() {
        for (int i = 0; i < 4; i++) {
            int k = i % 2;
            int had = i / 2;
            SoulOffice x = givenInTurn("kind k 9 1;kind l 9 1;soul a;soul b;soul c;", had);
            x.days(1);
            x.give(1, k);
            x.give(2, 1 - k);
            D.due("granted", x.grant(2, k), true);
            D.due("a stays", x.soul(0, 0), had);
            D.due("its DAYS", x.soul(0, 1), 8);
            D.due("b goes on", x.soul(1, 0), 1 - k);
            D.due("c", x.soul(2, 0), k);
        }
    }

    private static void p26WhoWaitStay() {
        SoulOffice x = Desk.with("kind k 9 1;kind l 9 1;soul a;soul b;soul c;soul d;");
        x.give(1, 1);
        x.give(3, 0);
        D.due("granted", x.grant(3, 1), true);
        D.due("a waits", x.soul(0, 0), -1);
        D.due("b goes on", x.soul(1, 0), 0);
        D.due("c waits", x.soul(2, 0), -1);
        D.due("d", x.soul(3, 0), 1);
    }

    private static void p26TheFewestThoughTheFirstIsChanged() {
        // a alone is changed, though a could stay by b and c changed
        SoulOffice x = givenInTurn("kind k 9 1;kind l 9 2;kind m 9 1;kind n 9 2;soul a;soul b;soul c;soul d;"
                + "only a l m;only b l k;only c k n;", 1, 1, 0, 3);
        D.due("two", x.appeal(3, 1), 2);
        D.due("granted", x.grant(3, 1), true);
        D.due("a goes on", x.soul(0, 0), 2);
        D.due("b stays", x.soul(1, 0), 1);
        D.due("c stays", x.soul(2, 0), 0);
    }

    private static void p26AllEight() {
        SoulOffice x = givenInTurn("kind u 9 1;kind v 9 1;kind w 9 2;kind x 9 1;kind y 9 1;kind z 9 2;"
                + "soul a;soul b;soul c;soul d;soul e;soul f;soul g;soul h;"
                + "only b v u;only c w;only d w;only e x;only f y;only g z;only h z v;", 0, 1, 2, 2, 3, 4, 5, 5);
        D.due("h and b", x.appeal(7, 1), 3);
        D.due("granted", x.grant(7, 1), true);
        D.due("a goes on as z, which h leaves", x.soul(0, 0), 5);
        D.due("b goes on as u", x.soul(1, 0), 0);
        D.due("h", x.soul(7, 0), 1);
        x = givenInTurn("kind u 9 9;kind v 9 1;soul a;soul b;soul c;soul d;soul e;soul f;soul g;soul h;", 0, 0, 0, 0, 0, 0, 0, 1);
        D.due("h leaves it", x.grant(0, 1), true);
        D.due("a", x.soul(0, 0), 1);
        D.due("h", x.soul(7, 0), 0);
    }

    // ---- 27: ends ----

    private static void p27NobodyOwes() {
        D.due("a new object", new SoulOffice().ends(), 0);
        SoulOffice x = Desk.with(TWO);
        x.days(60);
        D.due("that of now", x.ends(), 60);
    }

    private static void p27At400Days() {
        SoulOffice x = Desk.with("kind k 1 9;meets k k 1;soul a;soul b;debt a b 400;");
        D.due("400", x.ends(), 400);
        x.days(7);
        D.due("from now on", x.ends(), 407);
    }

    private static void p27Beyond400Days() {
        SoulOffice x = Desk.with("kind k 1 9;meets k k 1;soul a;soul b;debt a b 401;");
        D.due("401", x.ends(), -1);
        x.clerk(1);
        D.due("400 from now on", x.ends(), 401);
    }

    private static void p27NotSo() {
        D.due("it grows", Desk.with(THREE).ends(), -1);
        D.due("nobody settles", Desk.with("soul a;soul b;debt a b 1;").ends(), -1);
        D.due("as much as it grows", Desk.with(TWO + "debt a b 6;grows 5;").ends(), -1);
    }

    private static void p27ForTheFirstTime() {
        SoulOffice x = Desk.with(TWO + "debt a b 5;debt b a 1;");
        D.due("two DAYS", x.ends(), 2);
        x = Desk.with(TWO + "debt a b 5;");
        D.due("a DAY", x.ends(), 1);
    }

    private static void p27AllStays() {
        SoulOffice x = Desk.with(TWO + "debt a b 5;");
        x.ends();
        D.due("DAY", x.now(0), 0);
        D.due("births", x.now(5), 0);
        D.due("debts", x.now(1), 5);
        D.due("nothing to undo", x.undo(), -1);
    }

    private static void p27BehindTheLastDay() {
        SoulOffice x = atLastDay(TWO + "debt a b 10;");
        D.due("it looks on", x.ends(), 10001);
    }

    // ---- 28: later ----

    private static void p28NotAsTold() {
        SoulOffice x = Desk.with(THREE);
        for (int n : new int[] {0, -1, 61, 62, Integer.MIN_VALUE, Integer.MAX_VALUE}) {
            D.due("later(" + n + ")", x.later(n), -1);
        }
    }

    private static void p28OneTo60() {
        SoulOffice x = Desk.with("kind k 1 9;meets k k 1;soul a;soul b;debt a b 99;");
        D.due("later(1)", x.later(1), 98);
        D.due("later(59)", x.later(59), 40);
        D.due("later(60)", x.later(60), 39);
        D.due("all stays", x.now(1) + x.now(0), 99);
        D.due("nothing to undo", x.undo(), -1);
    }

    private static void p28BehindTheLastDay() {
        SoulOffice x = atLastDay(TWO + "debt a b 99;");
        D.due("it looks on", x.later(1), 94);
    }

    // ---- 29: queue ----

    private static void p29NoSuchOne() {
        SoulOffice x = Desk.with(THREE);
        D.due("queue(3)", x.queue(3), -1);
        for (int k : NO_SUCH) {
            D.due("queue(" + k + ")", x.queue(k), -1);
        }
        D.due("a new object", new SoulOffice().queue(0), -1);
    }

    private static void p29Nobody() {
        SoulOffice x = Desk.with("kind k 9 9;kind l 9 9;soul a;");
        D.due("not as the other KIND", x.queue(1), 0);
        D.due("no SOULS", Desk.with("kind k 1 1;").queue(0), 0);
    }

    private static void p29AllEight() {
        SoulOffice x = Desk.with(EIGHT);
        D.due("all", x.queue(0), 255);
    }

    private static void p29WhoLiveAreNotCounted() {
        SoulOffice x = Desk.with(EIGHT);
        x.give(0, 0);
        D.due("seven", x.queue(0), 254);
        x.days(1);
        D.due("seven", x.queue(0), 254);
    }

    private static void p29PlacesLeftToday() {
        SoulOffice x = Desk.with(EIGHT.replace("60 9", "60 2"));
        D.due("the first two", x.queue(0), 3);
        x.give(7, 0);
        D.due("the first one", x.queue(0), 1);
        x.give(6, 0);
        D.due("none", x.queue(0), 0);
        x.days(1);
        D.due("another DAY", x.queue(0), 3);
    }

    private static void p29AllStays() {
        SoulOffice x = Desk.with(EIGHT);
        x.queue(0);
        D.due("births", x.now(5), 0);
        D.due("PLACES left", x.kind(0, 2), 9);
        D.due("DAY", x.now(0), 0);
        D.due("nothing to undo", x.undo(), -1);
    }

    // ---- 30: drawn ----

    private static final String DRAWN = "kind k 9 9;kind l 9 9;kind m 9 9;soul a;soul b;soul c;soul d;soul e;soul f;soul g;soul h;";

    /** What eight SOULS are drawn as on one DAY, as digits. */
    private static int drawnAs(int seed) {
        SoulOffice x = Desk.with(DRAWN);
        D.due("all are given out", x.drawn(1, seed), 8);
        int all = 0;
        for (int s = 0; s < 8; s++) {
            all = all * 10 + x.soul(s, 0);
        }
        return all;
    }

    private static void p30NotAsTold() {
        SoulOffice x = Desk.with(DRAWN);
        for (int n : new int[] {0, -1, 61, 62, Integer.MIN_VALUE, Integer.MAX_VALUE}) {
            D.due("drawn(" + n + ")", x.drawn(n, 1), -1);
        }
        D.due("no DAY went", x.now(0), 0);
        D.due("nobody was given out", x.now(5), 0);
        D.due("nothing to undo", x.undo(), -1);
    }

    private static void p30OneTo60() {
        SoulOffice x = Desk.with("kind k 1 9;soul a;");
        D.due("drawn(1)", x.drawn(1, 1), 1);
        D.due("drawn(60)", x.drawn(60, 1), 60);
        D.due("DAY", x.now(0), 61);
    }

    private static void p30NoKinds() {
        SoulOffice x = Desk.with("soul a;");
        D.due("drawn(1)", x.drawn(1, 1), -1);
        D.due("no DAY went", x.now(0), 0);
        D.due("a new object", new SoulOffice().drawn(1, 1), -1);
        D.due("nothing to undo", x.undo(), -1);
    }

    private static void p30NoSouls() {
        SoulOffice x = Desk.with("kind k 1 1;");
        D.due("nobody", x.drawn(60, 1), 0);
        D.due("the DAYS go", x.now(0), 60);
        D.due("it can be undone", x.undo(), 0);
    }

    private static void p30ToDay9999() {
        SoulOffice x = atLastDay("kind k 1 9;soul a;");
        D.due("above 9999", x.drawn(1, 1), -1);
        x.undo();
        D.due("above 9999", x.drawn(40, 1), -1);
        D.due("nobody was given out", x.now(5), 0);
        D.due("the DAY", x.now(0), 9960);
        D.due("to 9999 itself", x.drawn(39, 1), 39);
        D.due("the DAY", x.now(0), 9999);
    }

    private static void p30SeedsAsTold() {
        D.due("seed 0", drawnAs(0), 10100);
        D.due("seed 1", drawnAs(1), 22021012);
        D.due("seed 2", drawnAs(2), 22100201);
    }

    private static void p30SeedsBelow0() {
        D.due("seed -1", drawnAs(-1), 10001210);
        D.due("seed -2", drawnAs(-2), 20022210);
        D.due("seed -3", drawnAs(-3), 21220021);
    }

    private static void p30SeedsWrap() {
        D.due("the greatest", drawnAs(Integer.MAX_VALUE), 22210021);
        D.due("the least", drawnAs(Integer.MIN_VALUE), 21122221);
    }

    private static void p30OneKindDrawsToo() {
        SoulOffice x = Desk.with("kind k 1 1;soul a;soul b;");
        D.due("one PLACE a DAY", x.drawn(9, 5), 9);
        D.due("a alone", x.soul(1, 2), 0);
    }

    private static void p30ADrawThatCannotBeIsNotDrawnAgain() {
        // seed -1 of two: 1 0 1 1 0 0 1 1
        SoulOffice x = Desk.with("kind k 9 1;kind l 9 1;soul a;soul b;soul c;soul d;soul e;only e k;");
        D.due("a as l, b as k", x.drawn(1, -1), 2);
        D.due("c finds no PLACE", x.soul(2, 0), -1);
        // the second DAY: c draws 0, d 1, e 1
        D.due("the sixth draw is the second DAY's first", x.now(4), 3);
        x.undo();
        D.due("two DAYS", x.drawn(2, -1), 4);
        D.due("c as k", x.soul(2, 0), 0);
        D.due("d as l", x.soul(3, 0), 1);
        D.due("e may not be l", x.soul(4, 0), -1);
    }

    private static void p30WhoLivesDrawsNothing() {
        // seed 1 of two: 0 0 0 1
        SoulOffice x = Desk.with("kind k 9 9;kind l 9 9;soul a;soul b;soul c;soul d;soul e;");
        x.give(0, 1);
        D.due("b to e", x.drawn(1, 1), 4);
        D.due("a as it lived", x.soul(0, 0), 1);
        D.due("d, the third", x.soul(3, 0), 0);
        D.due("e, the fourth", x.soul(4, 0), 1);
    }

    private static void p30ThenTheDayGoes() {
        SoulOffice x = Desk.with("kind k 9 9;meets k k 5;soul a;soul b;debt a b 9;");
        x.drawn(1, 1);
        D.due("they met", x.now(2), 5);
        D.due("a DAY of the life is over", x.soul(0, 1), 8);
    }

    // ---- 31: odds ----

    // the clerk gives both out as k; less is owed if the first two draws of two are 1: by seeds 2, 3, 7, 8, 12 ..
    private static final String ODDS = "kind k 60 9;kind l 60 9;meets l l 5;soul a;soul b;debt a b 9;";

    private static void p31NotAsTold() {
        SoulOffice x = Desk.with(ODDS);
        for (int n : new int[] {0, -1, 41, 42, Integer.MIN_VALUE, Integer.MAX_VALUE}) {
            D.due("odds(" + n + ")", x.odds(n, 2), -1);
        }
    }

    private static void p31NoKinds() {
        D.due("SOULS alone", Desk.with("soul a;soul b;debt a b 1;").odds(1, 1), -1);
        D.due("a new object", new SoulOffice().odds(1, 1), -1);
    }

    private static void p31OneTo40() {
        SoulOffice x = Desk.with(ODDS);
        D.due("seed 2", x.odds(1, 2), 1);
        D.due("seed 1", x.odds(1, 1), 0);
        D.due("seeds 0 to 39", x.odds(40, 0), 17);
        D.due("seeds 2 to 41", x.odds(40, 2), 18);
    }

    private static void p31SeedsInTurn() {
        SoulOffice x = Desk.with(ODDS);
        D.due("seeds 0 and 1", x.odds(2, 0), 0);
        D.due("seeds 0 to 2", x.odds(3, 0), 1);
        D.due("seeds 0 to 3", x.odds(4, 0), 2);
        D.due("seeds 0 to 6", x.odds(7, 0), 2);
        D.due("seeds 0 to 7", x.odds(8, 0), 3);
    }

    private static void p31SeedsWrap() {
        SoulOffice x = Desk.with(ODDS);
        int next = Integer.MAX_VALUE - 1;
        D.due("the greatest but one", x.odds(1, next), 1);
        D.due("the greatest", x.odds(2, next), 1);
        D.due("the least", x.odds(3, next), 1);
        D.due("the least but one", x.odds(4, next), 1);
        D.due("the least but two", x.odds(5, next), 2);
        D.due("from -2 to 2", x.odds(5, -2), 2);
    }

    private static void p31AsMuchIsNotLess() {
        SoulOffice x = Desk.with("kind k 60 9;meets k k 1;soul a;soul b;debt a b 99;");
        D.due("one KIND", x.odds(40, 0), 0);
    }

    private static void p31MoreIsNotLess() {
        SoulOffice x = Desk.with(ODDS + "wish a l;wish b l;");
        D.due("the clerk settles all", x.odds(40, 0), 0);
    }

    private static void p31ThirtyDays() {
        // seed 5 of two: 0 0 1 1: both as k, then, when that life is over, both as l
        SoulOffice x = Desk.with("kind k 29 9;kind l 1 9;meets l l 5;soul a;soul b;debt a b 9;");
        D.due("on the thirtieth DAY", x.odds(1, 5), 1);
        x = Desk.with("kind k 30 9;kind l 1 9;meets l l 5;soul a;soul b;debt a b 9;");
        D.due("on the thirty-first DAY", x.odds(1, 5), 0);
    }

    private static void p31ThirtyDaysByTheClerk() {
        // the clerk settles 1 a DAY; by seed 2 all is settled in a few DAYS
        String laws = "kind k 60 9;kind l 60 9;meets k k 1;meets l l 5;soul a;soul b;debt a b ";
        D.due("30 are settled both ways", Desk.with(laws + "30;").odds(1, 2), 0);
        D.due("one of 31 is left by the clerk", Desk.with(laws + "31;").odds(1, 2), 1);
    }

    private static void p31AllStays() {
        SoulOffice x = Desk.with(ODDS);
        x.odds(40, 0);
        D.due("DAY", x.now(0), 0);
        D.due("births", x.now(5), 0);
        D.due("debts", x.now(1), 9);
        D.due("nothing to undo", x.undo(), -1);
    }

    private static void p31BehindTheLastDay() {
        SoulOffice x = atLastDay(ODDS);
        D.due("it looks on", x.odds(1, 2), 1);
    }

    // ---- 32: greatest ----

    private static void p32NoSouls() {
        for (int what = 0; what <= 2; what++) {
            D.due("a new object", new SoulOffice().greatest(what), -1);
            D.due("KINDS alone", Desk.with("kind k 1 1;").greatest(what), -1);
        }
    }

    private static void p32AnotherWhat() {
        SoulOffice x = Desk.with(THREE);
        for (int what : new int[] {-1, 3, 4, Integer.MIN_VALUE, Integer.MAX_VALUE}) {
            D.due("greatest(" + what + ")", x.greatest(what), -1);
        }
    }

    private static void p32NobodyOwesAnything() {
        SoulOffice x = Desk.with(EIGHT);
        for (int what = 0; what <= 2; what++) {
            D.due("the first of like ones", x.greatest(what), 0);
        }
    }

    private static void p32OfLikeOnesTheFirst() {
        SoulOffice x = Desk.with("soul a;soul b;soul c;soul d;kind k 1 9;debt c a 5;debt b d 5;");
        D.due("b and c owe 5", x.greatest(0), 1);
        D.due("a and d are owed 5", x.greatest(1), 0);
        x.give(3, 0);
        x.give(2, 0);
        D.due("c and d are born", x.greatest(2), 2);
    }

    private static void p32TheLastOfEight() {
        SoulOffice x = Desk.with(EIGHT + "debt h a 2;debt a b 1;debt b h 3;");
        D.due("owes most", x.greatest(0), 1);
        D.due("is owed most", x.greatest(1), 7);
        x.give(7, 0);
        D.due("born", x.greatest(2), 7);
    }

    private static void p32InAll() {
        SoulOffice x = Desk.with("soul a;soul b;soul c;debt a b 4;debt b a 3;debt b c 3;");
        D.due("b owes 6", x.greatest(0), 1);
        x = Desk.with("soul a;soul b;soul c;debt a b 4;debt b c 3;debt a c 3;");
        D.due("c is owed 6", x.greatest(1), 2);
    }
}
