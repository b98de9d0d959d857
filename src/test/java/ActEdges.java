/**
 * The boundary cases that the document names for what is so and for acts (promises 6 to 16, and what a DAY, the
 * CLERK and GIVING OUT are): each has a test of its own. EdgesTest runs them.
 */
final class ActEdges {
    private static final Desk D = EdgesTest.DESK;
    private static final int[] NO_SUCH = {-1, -2, 6, 8, 9, 31, 32, 33, 64, Integer.MAX_VALUE, Integer.MIN_VALUE};
    private static final String THREE = "kind w 3 1;kind c 2 2;kind t 60 1;meets w c 4;meets c c 10;"
            + "soul a;soul b;soul d;only d t;wish a w;debt a b 9;debt b a 2;debt d a 5;grows 1;";
    // as many KINDS and SOULS as there may be
    private static final String FULL = "kind u 1 9;kind v 2 9;kind w 3 9;kind x 4 9;kind y 5 9;kind z 6 1;"
            + "meets z z 7;soul a;soul b;soul c;soul d;soul e;soul f;soul g;soul h;debt h a 3;debt a h 4;";
    // two who meet as k settle 5 a DAY
    private static final String TWO = "kind k 9 9;kind l 1 9;meets k k 5;soul a;soul b;";

    private ActEdges() {
    }

    /** Both live as k. */
    private static SoulOffice meeting(String debts) {
        SoulOffice x = Desk.with(TWO + debts);
        x.give(0, 0);
        x.give(1, 0);
        return x;
    }

    private static SoulOffice atDay(String office, int day) {
        SoulOffice x = Desk.with(office);
        for (int gone = 0; gone < day; gone += 60) {
            x.days(Math.min(60, day - gone));
        }
        D.due("the DAY", x.now(0), day);
        return x;
    }

    // ---- 6: kind ----

    private static void p06NoSuchKind() {
        SoulOffice x = Desk.with(THREE);
        for (int what = 0; what <= 3; what++) {
            D.due("kind(3, " + what + ")", x.kind(3, what), -1);
            for (int k : NO_SUCH) {
                D.due("kind(" + k + ", " + what + ")", x.kind(k, what), -1);
            }
        }
    }

    private static void p06TheLastOfSixKinds() {
        SoulOffice x = Desk.with(FULL);
        D.due("kind(5, 0)", x.kind(5, 0), 6);
        D.due("kind(5, 1)", x.kind(5, 1), 1);
        D.due("kind(5, 2)", x.kind(5, 2), 1);
        D.due("kind(5, 3)", x.kind(5, 3), 0);
        D.due("kind(6, 0)", x.kind(6, 0), -1);
    }

    private static void p06NoSuchWhat() {
        SoulOffice x = Desk.with(THREE);
        for (int what : new int[] {-1, 4, 5, Integer.MIN_VALUE, Integer.MAX_VALUE}) {
            D.due("kind(0, " + what + ")", x.kind(0, what), -1);
        }
    }

    private static void p06NoPlaceLeft() {
        SoulOffice x = Desk.with(THREE);
        x.give(0, 0);
        D.due("PLACES left", x.kind(0, 2), 0);
        D.due("PLACES as told", x.kind(0, 1), 1);
        D.due("PLACES left of another", x.kind(1, 2), 2);
    }

    private static void p06PlacesAreFreeAgainThoughOneLivesSo() {
        SoulOffice x = Desk.with(THREE);
        x.give(0, 0);
        x.days(1);
        D.due("PLACES left", x.kind(0, 2), 1);
        D.due("who lives so", x.kind(0, 3), 1);
    }

    private static void p06HowManyLiveSo() {
        SoulOffice x = Desk.with(FULL);
        D.due("nobody", x.kind(1, 3), 0);
        for (int s = 0; s < 8; s++) {
            x.give(s, 1);
        }
        D.due("all", x.kind(1, 3), 8);
        D.due("nobody as another", x.kind(0, 3), 0);
        x.days(1);
        D.due("the last DAY", x.kind(1, 3), 8);
        x.days(1);
        D.due("behind the last DAY", x.kind(1, 3), 0);
    }

    private static void p06WhicheverSoulsLiveSo() {
        for (int bits = 0; bits < 256; bits++) {
            SoulOffice x = Desk.with(FULL);
            for (int s = 0; s < 8; s++) {
                if ((bits >> s & 1) == 1) {
                    x.give(s, 2);
                } else if (s % 3 == 0) {
                    x.give(s, 1);
                }
            }
            D.due("who live so, of SOULS " + bits, x.kind(2, 3), Integer.bitCount(bits));
        }
    }

    // ---- 7: meets ----

    private static void p07NoSuchOnes() {
        SoulOffice x = Desk.with(THREE);
        D.due("meets(0, 3)", x.meets(0, 3), -1);
        D.due("meets(3, 0)", x.meets(3, 0), -1);
        for (int k : NO_SUCH) {
            D.due("meets(0, " + k + ")", x.meets(0, k), -1);
            D.due("meets(" + k + ", 0)", x.meets(k, 0), -1);
            D.due("meets(" + k + ", " + k + ")", x.meets(k, k), -1);
        }
    }

    private static void p07InWhateverOrder() {
        SoulOffice x = Desk.with(THREE);
        D.due("as told", x.meets(0, 1), 4);
        D.due("the other way round", x.meets(1, 0), 4);
    }

    private static void p07EachTwoOfSix() {
        StringBuilder text = new StringBuilder("kind u 1 1;kind v 1 1;kind w 1 1;kind x 1 1;kind y 1 1;kind z 1 1;");
        for (int a = 0; a < 6; a++) {
            for (int b = a; b < 6; b++) {
                text.append("meets ").append((char) ('u' + b)).append(' ').append((char) ('u' + a)).append(' ');
                text.append(a * 10 + b).append(';');
            }
        }
        SoulOffice x = Desk.with(text.toString());
        for (int a = 0; a < 6; a++) {
            for (int b = 0; b < 6; b++) {
                D.due("meets(" + a + ", " + b + ")", x.meets(a, b), Math.min(a, b) * 10 + Math.max(a, b));
            }
        }
    }

    private static void p07Alike() {
        SoulOffice x = Desk.with(FULL);
        D.due("the last KIND with itself", x.meets(5, 5), 7);
    }

    private static void p07NothingWithout() {
        SoulOffice x = Desk.with(THREE);
        D.due("unlike", x.meets(0, 2), 0);
        D.due("alike", x.meets(2, 2), 0);
    }

    // ---- 8: soul ----

    private static void p08NoSuchSoul() {
        SoulOffice x = Desk.with(THREE);
        for (int what = 0; what <= 7; what++) {
            D.throwsSoul(x, 3, what);
            for (int s : NO_SUCH) {
                D.throwsSoul(x, s, what);
            }
        }
    }

    private static void p08NoSuchWhat() {
        SoulOffice x = Desk.with(THREE);
        for (int what : new int[] {-1, 8, 9, Integer.MIN_VALUE, Integer.MAX_VALUE}) {
            D.throwsSoul(x, 0, what);
            D.throwsSoul(x, 3, what);
        }
    }

    private static void p08TheLastOfEightSouls() {
        SoulOffice x = Desk.with(FULL);
        D.due("KINDS", x.soul(7, 3), 63);
        D.due("owes", x.soul(7, 5), 3);
        D.due("is owed", x.soul(7, 6), 4);
        D.throwsSoul(x, 8, 0);
    }

    private static void p08ACallThatThrowsChangesNothing() {
        SoulOffice x = Desk.with(THREE);
        x.give(0, 0);
        D.throwsSoul(x, 3, 0);
        D.throwsSoul(x, 0, 8);
        D.due("births", x.now(5), 1);
        D.due("what can be undone", x.undo(), 0);
    }

    private static void p08ItWaits() {
        SoulOffice x = Desk.with(THREE);
        D.due("no KIND", x.soul(0, 0), -1);
        D.due("no DAYS left", x.soul(0, 1), 0);
        D.due("never born", x.soul(0, 2), 0);
        D.due("not today", x.soul(0, 7), 0);
    }

    private static void p08ItLives() {
        SoulOffice x = Desk.with(THREE);
        x.give(1, 0);
        D.due("the first KIND", x.soul(1, 0), 0);
        D.due("all its DAYS, this one counted", x.soul(1, 1), 3);
        D.due("once", x.soul(1, 2), 1);
        D.due("today", x.soul(1, 7), 1);
    }

    private static void p08TheLastDayOfALife() {
        SoulOffice x = Desk.with(THREE);
        x.give(2, 2);
        x.days(59);
        D.due("it lives", x.soul(2, 0), 2);
        D.due("this DAY alone", x.soul(2, 1), 1);
        x.days(1);
        D.due("it waits", x.soul(2, 0), -1);
        D.due("no DAYS left", x.soul(2, 1), 0);
        D.due("births stay", x.soul(2, 2), 1);
    }

    private static void p08ALifeOfOneDay() {
        SoulOffice x = Desk.with(TWO);
        x.give(0, 1);
        D.due("this DAY alone", x.soul(0, 1), 1);
        x.days(1);
        D.due("it waits", x.soul(0, 0), -1);
        D.due("it can be given out again", x.give(0, 1), 0);
        D.due("twice", x.soul(0, 2), 2);
    }

    private static void p08TodayNotOtherDays() {
        SoulOffice x = Desk.with(THREE);
        x.give(0, 0);
        x.days(1);
        D.due("it lives yet", x.soul(0, 0), 0);
        D.due("not today", x.soul(0, 7), 0);
    }

    private static void p08WishesNothing() {
        SoulOffice x = Desk.with(THREE);
        D.due("the first KIND", x.soul(0, 4), 0);
        D.due("none", x.soul(1, 4), -1);
    }

    private static void p08KindsAsBits() {
        SoulOffice x = Desk.with("soul a;kind k 1 1;soul b;kind l 1 1;soul c;only b k;only c l;");
        D.due("all", x.soul(0, 3), 3);
        D.due("the first", x.soul(1, 3), 1);
        D.due("the last", x.soul(2, 3), 2);
    }

    // ---- 9: debt ----

    private static void p09NoSuchOnes() {
        SoulOffice x = Desk.with(THREE);
        D.due("debt(0, 3)", x.debt(0, 3), -1);
        D.due("debt(3, 0)", x.debt(3, 0), -1);
        for (int s : NO_SUCH) {
            D.due("debt(0, " + s + ")", x.debt(0, s), -1);
            D.due("debt(" + s + ", 0)", x.debt(s, 0), -1);
            D.due("debt(" + s + ", " + s + ")", x.debt(s, s), -1);
        }
    }

    private static void p09EachWayByItself() {
        SoulOffice x = Desk.with(FULL);
        D.due("the last one's", x.debt(7, 0), 3);
        D.due("to the last one", x.debt(0, 7), 4);
        D.due("none", x.debt(0, 1), 0);
        D.due("to itself", x.debt(7, 7), 0);
    }

    // ---- 10: now ----

    private static void p10AnotherWhat() {
        SoulOffice x = Desk.with(THREE);
        for (int what : new int[] {-1, 7, 8, Integer.MIN_VALUE, Integer.MAX_VALUE}) {
            D.due("now(" + what + ")", x.now(what), -1);
        }
    }

    private static void p10BothWaysCountedTwice() {
        SoulOffice x = Desk.with(THREE);
        D.due("a and b both ways, d to a", x.now(6), 3);
        x = Desk.with("soul a;soul b;");
        D.due("none", x.now(6), 0);
        x = Desk.with("soul a;soul b;debt a b 1;debt b a 1;");
        D.due("of 1 each", x.now(6), 2);
    }

    private static void p10SoFar() {
        SoulOffice x = meeting("debt a b 12;grows 1;");
        x.days(1);
        D.due("settled", x.now(2), 5);
        D.due("grown", x.now(3), 1);
        x.days(1);
        D.due("settled in both", x.now(2), 10);
        D.due("grown in both", x.now(3), 2);
        D.due("all debts", x.now(1), 4);
        D.due("births", x.now(5), 2);
    }

    private static void p10WhoWait() {
        SoulOffice x = Desk.with(FULL);
        D.due("all", x.now(4), 8);
        for (int s = 0; s < 8; s++) {
            x.give(s, 0);
        }
        D.due("none", x.now(4), 0);
        x.days(1);
        D.due("all again", x.now(4), 8);
    }

    // ---- 11: why ----

    private static void p11NoSuchOnes() {
        SoulOffice x = Desk.with(THREE);
        D.due("why(3, 0)", x.why(3, 0), -1);
        D.due("why(0, 3)", x.why(0, 3), -1);
        for (int n : NO_SUCH) {
            D.due("why(" + n + ", 0)", x.why(n, 0), -1);
            D.due("why(0, " + n + ")", x.why(0, n), -1);
        }
    }

    private static void p11TheLastOnes() {
        SoulOffice x = Desk.with(FULL);
        D.due("why(7, 5)", x.why(7, 5), 0);
        D.due("give(7, 5)", x.give(7, 5), 0);
    }

    private static void p11ItDoesNotWait() {
        SoulOffice x = Desk.with(FULL);
        x.give(0, 0);
        D.due("as another", x.why(0, 1), 1);
        D.due("as it lives", x.why(0, 0), 1);
    }

    private static void p11ItMayNotBeThat() {
        SoulOffice x = Desk.with(THREE);
        D.due("why(2, 0)", x.why(2, 0), 2);
    }

    private static void p11NoPlaceIsLeftToday() {
        SoulOffice x = Desk.with(THREE);
        x.give(0, 1);
        D.due("one is left", x.why(1, 1), 0);
        x = Desk.with(THREE);
        x.give(0, 0);
        D.due("none is left", x.why(1, 0), 3);
        x.days(1);
        D.due("another DAY", x.why(1, 0), 0);
    }

    private static void p11TheLeastOfThree() {
        SoulOffice x = Desk.with("kind k 9 1;kind l 9 1;soul a;soul b;soul c;only b l;only c l;");
        x.give(0, 0);
        D.due("it may not, no PLACE", x.why(1, 0), 2);
        x.give(1, 1);
        D.due("it does not wait, may not, no PLACE", x.why(1, 0), 1);
        D.due("it does not wait, no PLACE", x.why(1, 1), 1);
        D.due("no PLACE", x.why(2, 1), 3);
        x.days(1);
        D.due("it does not wait, may not", x.why(1, 0), 1);
    }

    private static void p11NothingHappens() {
        SoulOffice x = Desk.with(THREE);
        x.why(0, 0);
        D.due("births", x.now(5), 0);
        D.due("PLACES left", x.kind(0, 2), 1);
    }

    // ---- 12: give ----

    private static void p12NoSuchOnes() {
        SoulOffice x = Desk.with(THREE);
        D.due("give(3, 0)", x.give(3, 0), -1);
        D.due("give(0, 3)", x.give(0, 3), -1);
        for (int n : NO_SUCH) {
            D.due("give(" + n + ", 0)", x.give(n, 0), -1);
            D.due("give(0, " + n + ")", x.give(0, n), -1);
        }
        D.due("births", x.now(5), 0);
        D.due("nothing to undo", x.undo(), -1);
    }

    private static void p12RefusedItDoesNotWait() {
        SoulOffice x = Desk.with(THREE);
        x.give(0, 0);
        x.days(1);
        D.due("give(0, 1)", x.give(0, 1), 1);
        D.due("as it was", x.soul(0, 0), 0);
        D.due("DAYS left", x.soul(0, 1), 2);
        D.due("births", x.now(5), 1);
        D.due("PLACES left", x.kind(1, 2), 2);
        D.due("today", x.soul(0, 7), 0);
        D.due("what can be undone", x.undo(), 1);
    }

    private static void p12RefusedItMayNotBeThat() {
        SoulOffice x = Desk.with(THREE);
        D.due("give(2, 0)", x.give(2, 0), 2);
        D.due("it waits", x.soul(2, 0), -1);
        D.due("PLACES left", x.kind(0, 2), 1);
        D.due("nothing to undo", x.undo(), -1);
    }

    private static void p12RefusedNoPlace() {
        SoulOffice x = Desk.with(THREE);
        x.give(0, 0);
        D.due("give(1, 0)", x.give(1, 0), 3);
        D.due("it waits", x.soul(1, 0), -1);
        D.due("PLACES left", x.kind(0, 2), 0);
        D.due("births", x.now(5), 1);
        D.due("what can be undone", x.undo(), 0);
    }

    private static void p12TheLastPlace() {
        SoulOffice x = Desk.with(THREE);
        D.due("the first", x.give(0, 1), 0);
        D.due("the last", x.give(1, 1), 0);
        D.due("both live so", x.kind(1, 3), 2);
        D.due("none is left", x.kind(1, 2), 0);
    }

    private static void p12PlacesAreThoseOfADay() {
        SoulOffice x = Desk.with("kind k 60 1;soul a;soul b;soul c;");
        for (int s = 0; s < 3; s++) {
            D.due("given out", x.give(s, 0), 0);
            x.days(1);
        }
        D.due("all live so", x.kind(0, 3), 3);
    }

    // ---- 13: days, and what a DAY is ----

    private static void p13NotAsTold() {
        SoulOffice x = Desk.with(THREE);
        for (int n : new int[] {0, -1, -60, 61, 62, 9999, 10000, Integer.MIN_VALUE, Integer.MAX_VALUE}) {
            D.due("days(" + n + ")", x.days(n), -1);
        }
        D.due("no DAY went", x.now(0), 0);
        D.due("nothing grew", x.now(3), 0);
        D.due("nothing to undo", x.undo(), -1);
    }

    private static void p13OneTo60() {
        SoulOffice x = Desk.with(THREE);
        D.due("days(1)", x.days(1), 1);
        D.due("days(60)", x.days(60), 61);
    }

    private static void p13ToDay9999() {
        SoulOffice x = atDay("soul a;", 9939);
        D.due("to 9999 itself", x.days(60), 9999);
        x.undo();
        D.due("to 9998", x.days(59), 9998);
        D.due("to 9999", x.days(1), 9999);
    }

    private static void p13AboveDay9999() {
        SoulOffice x = atDay("soul a;soul b;debt a b 1;grows 1;", 9940);
        int grown = x.now(3);
        D.due("to 10000", x.days(60), -1);
        D.due("no DAY went", x.now(0), 9940);
        D.due("nothing grew", x.now(3), grown);
        D.due("to 9999", x.days(59), 9999);
        D.due("to 10000", x.days(1), -1);
        D.due("not as told", x.days(0), -1);
        D.due("the DAY", x.now(0), 9999);
    }

    private static void p13NoLessThan0() {
        SoulOffice x = meeting("debt a b 3;");
        x.days(1);
        D.due("the debt", x.debt(0, 1), 0);
        D.due("settled", x.now(2), 3);
        x.days(1);
        D.due("the debt", x.debt(0, 1), 0);
        D.due("settled", x.now(2), 3);
    }

    private static void p13JustAsMuch() {
        SoulOffice x = meeting("debt a b 5;debt b a 1;");
        x.days(1);
        D.due("the first one's", x.debt(0, 1), 0);
        D.due("nothing is over", x.debt(1, 0), 1);
    }

    private static void p13WhatIsOver() {
        SoulOffice x = meeting("debt a b 4;debt b a 9;");
        x.days(1);
        D.due("the first one's", x.debt(0, 1), 0);
        D.due("one is over", x.debt(1, 0), 8);
        x.days(1);
        D.due("all is over", x.debt(1, 0), 3);
        x.days(1);
        D.due("no less than 0", x.debt(1, 0), 0);
        D.due("settled", x.now(2), 13);
    }

    private static void p13TheLesserSoulIsTheFirstOne() {
        SoulOffice x = Desk.with(TWO + "debt b a 4;debt a b 4;");
        x.give(1, 0);
        x.give(0, 0);
        x.days(1);
        D.due("a's debt first", x.debt(0, 1), 0);
        D.due("b's debt by what is over", x.debt(1, 0), 3);
    }

    private static void p13EachPairOnce() {
        SoulOffice x = Desk.with(TWO + "soul c;debt a b 50;debt c b 50;");
        x.give(0, 0);
        x.give(1, 0);
        x.give(2, 0);
        x.days(1);
        D.due("a and b", x.debt(0, 1), 45);
        D.due("c and b", x.debt(2, 1), 45);
        D.due("settled", x.now(2), 10);
    }

    private static void p13OneWhoWaitsSettlesNothing() {
        SoulOffice x = Desk.with(TWO + "debt a b 9;");
        x.give(0, 0);
        x.days(1);
        D.due("a alone", x.now(2), 0);
        x = Desk.with(TWO + "debt a b 9;");
        x.give(1, 0);
        x.days(1);
        D.due("b alone", x.now(2), 0);
        x = Desk.with(TWO + "debt a b 9;");
        x.days(1);
        D.due("nobody", x.now(2), 0);
    }

    private static void p13KindsWithoutAMeeting() {
        SoulOffice x = Desk.with(TWO + "debt a b 9;");
        x.give(0, 0);
        x.give(1, 1);
        x.days(1);
        D.due("0 without", x.now(2), 0);
    }

    private static void p13TheLastDayOfALifeSettles() {
        SoulOffice x = Desk.with("kind k 9 9;kind l 1 9;meets k l 5;soul a;soul b;debt a b 50;");
        x.give(0, 0);
        x.give(1, 1);
        x.days(2);
        D.due("one DAY together", x.now(2), 5);
    }

    private static void p13GrowsWhatIsLeft() {
        SoulOffice x = meeting("debt a b 5;debt b a 1;grows 9;");
        x.days(1);
        D.due("what is settled whole does not grow", x.debt(0, 1), 0);
        D.due("what is left grows", x.debt(1, 0), 10);
        D.due("by so much", x.now(3), 9);
    }

    private static void p13GrowsBehindSettling() {
        SoulOffice x = meeting("debt a b 6;grows 9;");
        x.days(1);
        D.due("1 is left, and grows", x.debt(0, 1), 10);
    }

    private static void p13GrowsByNothing() {
        SoulOffice x = Desk.with(TWO + "debt a b 6;");
        x.days(60);
        D.due("the debt", x.debt(0, 1), 6);
        D.due("grown", x.now(3), 0);
    }

    private static void p13AsMuchAsCanBeOwed() {
        // 99999 can't be reached by DAY 9999; nothing may end the growing ahead of it
        SoulOffice x = atDay("soul a;soul b;debt a b 999;grows 9;", 9999);
        D.due("999 and 9 a DAY", x.debt(0, 1), 90990);
        D.due("grown", x.now(3), 89991);
    }

    private static void p13PlacesAreFreeAgain() {
        SoulOffice x = Desk.with(FULL);
        x.give(0, 5);
        D.due("no PLACE", x.kind(5, 2), 0);
        x.days(60);
        D.due("as told", x.kind(5, 2), 1);
    }

    private static void p13NobodyIsGivenOut() {
        SoulOffice x = Desk.with(THREE);
        x.days(60);
        D.due("births", x.now(5), 0);
    }

    // ---- 14: clerk ----

    private static void p14NotAsTold() {
        SoulOffice x = Desk.with(THREE);
        for (int n : new int[] {0, -1, -60, 61, 62, 9999, 10000, Integer.MIN_VALUE, Integer.MAX_VALUE}) {
            D.due("clerk(" + n + ")", x.clerk(n), -1);
        }
        D.due("no DAY went", x.now(0), 0);
        D.due("nobody was given out", x.now(5), 0);
        D.due("nothing to undo", x.undo(), -1);
    }

    private static void p14OneTo60() {
        SoulOffice x = Desk.with(THREE);
        D.due("clerk(1)", x.clerk(1), 1);
        D.due("clerk(60)", x.clerk(60), 61);
    }

    private static void p14ToDay9999() {
        SoulOffice x = atDay(THREE, 9939);
        D.due("to 9999 itself", x.clerk(60), 9999);
    }

    private static void p14AboveDay9999() {
        SoulOffice x = atDay(THREE, 9940);
        D.due("to 10000", x.clerk(60), -1);
        D.due("no DAY went", x.now(0), 9940);
        D.due("nobody was given out", x.now(5), 0);
        D.due("to 9999", x.clerk(59), 9999);
        D.due("to 10000", x.clerk(1), -1);
    }

    private static void p14AsItWishes() {
        SoulOffice x = Desk.with("kind k 9 9;kind l 9 9;soul a;wish a l;");
        x.clerk(1);
        D.due("not the first KIND", x.soul(0, 0), 1);
    }

    private static void p14TheWishItMayNotBe() {
        SoulOffice x = Desk.with("kind k 9 9;kind l 9 9;kind m 9 9;soul a;only a l m;wish a k;");
        x.clerk(1);
        D.due("the first that it may be", x.soul(0, 0), 1);
    }

    private static void p14TheWishWithoutAPlace() {
        SoulOffice x = Desk.with("kind k 9 9;kind l 9 1;soul a;soul b;wish a l;wish b l;");
        x.clerk(1);
        D.due("a as it wishes", x.soul(0, 0), 1);
        D.due("b as the first KIND", x.soul(1, 0), 0);
    }

    private static void p14TheFirstKindWithAPlace() {
        SoulOffice x = Desk.with("kind k 9 1;kind l 9 9;soul a;soul b;soul c;only c l;");
        x.clerk(1);
        D.due("a as k", x.soul(0, 0), 0);
        D.due("b as l", x.soul(1, 0), 1);
        D.due("c as l", x.soul(2, 0), 1);
    }

    private static void p14ItWaitsOn() {
        SoulOffice x = Desk.with("kind k 1 1;kind l 1 9;soul a;soul b;only a k;only b k;");
        x.clerk(60);
        D.due("a each DAY", x.soul(0, 2), 60);
        D.due("b never", x.soul(1, 2), 0);
    }

    private static void p14WhoLivesIsNotGivenOut() {
        SoulOffice x = Desk.with("kind k 2 9;kind l 9 9;soul a;wish a l;");
        x.give(0, 0);
        x.clerk(1);
        D.due("as it lived", x.soul(0, 0), 0);
        x.clerk(1);
        D.due("once", x.soul(0, 2), 1);
        x.clerk(1);
        D.due("then as it wishes", x.soul(0, 0), 1);
    }

    private static void p14ThenTheDayGoes() {
        SoulOffice x = Desk.with(TWO + "debt a b 9;");
        x.clerk(1);
        D.due("they met on the DAY they were given out", x.now(2), 5);
        D.due("a DAY of the life is over", x.soul(0, 1), 8);
    }

    private static void p14TheLastOfEightAndOfSix() {
        SoulOffice x = Desk.with(FULL + "wish h z;wish g z;only f z;");
        x.clerk(1);
        D.due("f as z alone", x.soul(5, 0), 5);
        D.due("g finds no PLACE", x.soul(6, 2), 1);
        D.due("h finds no PLACE", x.soul(7, 2), 1);
        x.clerk(1);
        D.due("g as it wishes", x.soul(6, 0), 5);
        x.clerk(1);
        D.due("h as it wishes", x.soul(7, 0), 5);
    }

    private static void p14WithoutKindsOrSouls() {
        SoulOffice x = Desk.with("soul a;");
        D.due("no KINDS", x.clerk(60), 60);
        D.due("births", x.now(5), 0);
        x = new SoulOffice();
        D.due("nothing", x.clerk(1), 1);
    }

    // ---- 15: settled ----

    private static void p15NoSuchOnes() {
        SoulOffice x = meeting("debt a b 9;");
        x.days(1);
        D.due("settled(0, 2)", x.settled(0, 2), -1);
        D.due("settled(2, 0)", x.settled(2, 0), -1);
        for (int s : NO_SUCH) {
            D.due("settled(0, " + s + ")", x.settled(0, s), -1);
            D.due("settled(" + s + ", 0)", x.settled(s, 0), -1);
        }
    }

    private static void p15Alike() {
        SoulOffice x = meeting("debt a b 9;");
        x.days(1);
        D.due("settled(0, 0)", x.settled(0, 0), -1);
        D.due("settled(1, 1)", x.settled(1, 1), -1);
    }

    private static void p15NoDayWentYet() {
        SoulOffice x = meeting("debt a b 9;");
        D.due("settled(0, 1)", x.settled(0, 1), -1);
        x.days(1);
        D.due("a DAY went", x.settled(0, 1), 5);
        x.undo();
        D.due("it is undone", x.settled(0, 1), -1);
    }

    private static void p15BetweenThemInWhateverOrder() {
        SoulOffice x = Desk.with(FULL.replace("z 6 1", "z 6 9"));
        x.give(0, 5);
        x.give(7, 5);
        x.days(1);
        D.due("4 of a's and 3 of h's", x.settled(0, 7), 7);
        D.due("the other way round", x.settled(7, 0), 7);
        D.due("others", x.settled(0, 1), 0);
    }

    private static void p15TheLatestDayAlone() {
        SoulOffice x = meeting("debt a b 9;");
        x.days(2);
        D.due("the second DAY", x.settled(0, 1), 4);
        x.days(1);
        D.due("nothing in the third", x.settled(0, 1), 0);
    }

    private static void p15OfDaysNotUndone() {
        SoulOffice x = meeting("debt a b 9;");
        x.days(1);
        x.days(1);
        x.days(1);
        x.undo();
        D.due("the second DAY", x.settled(0, 1), 4);
        x.undo();
        D.due("the first DAY", x.settled(0, 1), 5);
    }

    private static void p15AsKeptBehindRestore() {
        SoulOffice x = meeting("debt a b 9;");
        x.image(0);
        x.days(1);
        x.image(1);
        x.days(2);
        x.restore(1);
        D.due("the first DAY", x.settled(0, 1), 5);
        x.restore(0);
        D.due("no DAY went yet", x.settled(0, 1), -1);
    }

    private static void p15OfWhateverWayTheDayWent() {
        SoulOffice x = Desk.with(TWO + "debt a b 99;");
        x.clerk(1);
        D.due("by the clerk", x.settled(0, 1), 5);
        x.drawn(1, 1);
        D.due("drawn", x.settled(0, 1), 5);
        Desk.book(x, 1, "day 9;");
        D.due("in a DAYBOOK that was lived", x.settled(0, 1), 0);
        Desk.book(x, 0, "clerk 1;");
        x.later(1);
        x.ends();
        x.odds(1, 1);
        D.due("not in one that was judged alone", x.settled(0, 1), 0);
    }

    // ---- 16: undo ----

    private static void p16None() {
        SoulOffice x = Desk.with(THREE);
        D.due("none is", x.undo(), -1);
        x.days(1);
        D.due("the only one", x.undo(), 0);
        D.due("none is", x.undo(), -1);
        D.due("DAY 0", x.now(0), 0);
    }

    private static void p16EightAtMost() {
        SoulOffice x = Desk.with("soul a;");
        for (int i = 0; i < 8; i++) {
            x.days(1);
        }
        D.due("all eight", x.undo(), 7);
        x.days(1);
        x.days(1);
        for (int left = 7; left >= 0; left--) {
            D.due("undo()", x.undo(), left);
        }
        D.due("none is left", x.undo(), -1);
        D.due("the ninth stays", x.now(0), 1);
    }

    private static void p16EightOfManyMore() {
        SoulOffice x = Desk.with("soul a;");
        for (int i = 0; i < 30; i++) {
            x.days(1);
        }
        for (int left = 7; left >= 0; left--) {
            D.due("undo()", x.undo(), left);
            D.due("the DAY", x.now(0), 22 + left);
        }
        D.due("none is left", x.undo(), -1);
        D.due("the DAY", x.now(0), 22);
    }

    private static void p16Give() {
        SoulOffice x = Desk.with(THREE);
        x.give(0, 0);
        D.due("undo()", x.undo(), 0);
        D.due("it waits", x.soul(0, 0), -1);
        D.due("births", x.now(5), 0);
        D.due("PLACES left", x.kind(0, 2), 1);
        D.due("today", x.soul(0, 7), 0);
    }

    private static void p16Days() {
        SoulOffice x = meeting("debt a b 9;debt b a 9;grows 1;");
        x.days(2);
        D.due("undo()", x.undo(), 2);
        D.due("DAY", x.now(0), 0);
        D.due("debts", x.debt(0, 1), 9);
        D.due("settled", x.now(2), 0);
        D.due("grown", x.now(3), 0);
        D.due("DAYS left", x.soul(0, 1), 9);
        D.due("PLACES left", x.kind(0, 2), 7);
        D.due("today", x.soul(0, 7), 1);
    }

    private static void p16TheLastOfEightAndOfSix() {
        SoulOffice x = Desk.with(FULL);
        x.give(7, 5);
        x.days(2);
        D.due("the DAYS", x.undo(), 1);
        D.due("DAYS left", x.soul(7, 1), 6);
        D.due("births", x.soul(7, 2), 1);
        D.due("today", x.soul(7, 7), 1);
        D.due("PLACES left", x.kind(5, 2), 0);
        D.due("the giving out", x.undo(), 0);
        D.due("it waits", x.soul(7, 0), -1);
        D.due("DAYS left", x.soul(7, 1), 0);
        D.due("births", x.soul(7, 2), 0);
        D.due("today", x.soul(7, 7), 0);
        D.due("PLACES left", x.kind(5, 2), 1);
        D.due("debts", x.debt(7, 0) * 10 + x.debt(0, 7), 34);
    }

    private static void p16Clerk() {
        SoulOffice x = Desk.with(THREE);
        x.clerk(3);
        D.due("undo()", x.undo(), 0);
        D.due("DAY", x.now(0), 0);
        D.due("births", x.now(5), 0);
    }

    private static void p16AnAppealThatWasGranted() {
        SoulOffice x = Desk.with(THREE);
        x.give(1, 1);
        x.grant(1, 0);
        D.due("granted", x.soul(1, 0), 0);
        D.due("undo()", x.undo(), 1);
        D.due("as it was", x.soul(1, 0), 1);
        D.due("PLACES left", x.kind(0, 2) * 10 + x.kind(1, 2), 11);
    }

    private static void p16AnAppealThatWasNotGranted() {
        SoulOffice x = Desk.with(THREE);
        x.give(1, 1);
        x.grant(1, 1);
        x.grant(0, 0);
        x.grant(3, 0);
        D.due("give() alone", x.undo(), 0);
    }

    private static void p16Drawn() {
        SoulOffice x = Desk.with(THREE);
        x.drawn(60, 1);
        D.due("undo()", x.undo(), 0);
        D.due("DAY", x.now(0), 0);
        D.due("births", x.now(5), 0);
    }

    private static void p16DrawnAsNotTold() {
        SoulOffice x = Desk.with(THREE);
        x.drawn(0, 1);
        x.drawn(61, 1);
        D.due("nothing", x.undo(), -1);
    }

    private static void p16ADaybookOfWhichALineWasLived() {
        SoulOffice x = Desk.with(THREE);
        Desk.book(x, 1, "clerk 1;a as c;a as c;day 9;");
        D.due("undo()", x.undo(), 0);
        D.due("DAY", x.now(0), 0);
        D.due("births", x.now(5), 0);
    }

    private static void p16ADaybookOfWhichNoLineWasLived() {
        SoulOffice x = Desk.with(THREE);
        Desk.book(x, 1, "");
        Desk.book(x, 1, "d as w;day 1;");
        Desk.book(x, 0, "day 1;");
        Desk.book(x, 1, "day 1;day");
        D.due("nothing", x.undo(), -1);
    }

    private static void p16OtherCallsKeepNothing() {
        SoulOffice x = Desk.with(THREE);
        Desk.sentence(x, "waits");
        x.image(0);
        x.most(1);
        x.ends();
        x.later(1);
        x.odds(1, 1);
        x.queue(0);
        Desk.were(x, 0, 1, 1);
        D.due("nothing", x.undo(), -1);
    }

    private static void p16TheSentenceStays() {
        SoulOffice x = Desk.with(THREE);
        x.days(1);
        Desk.sentence(x, "waits");
        x.undo();
        D.due("the SENTENCE", x.said(-1), 3);
    }

    private static void p16NothingBehindANewOffice() {
        SoulOffice x = Desk.with(THREE);
        x.days(1);
        Desk.office(x, THREE);
        D.due("a new OFFICE", x.undo(), -1);
        x.days(1);
        Desk.office(x, "soul");
        D.due("a FAULT", x.undo(), 0);
    }

    private static void p16NothingBehindRestore() {
        SoulOffice x = Desk.with(THREE);
        x.image(0);
        x.days(1);
        x.restore(1);
        D.due("nothing was kept there: it can", x.undo(), 0);
        x.days(1);
        x.restore(0);
        D.due("an image", x.undo(), -1);
        x.days(1);
        D.due("what is done from then on can", x.undo(), 0);
    }
}
