/** Promises 30, 31 and 33 to 38 by hand: years drawn, daybooks, what may be said, images. */
public final class LaterPromiseTest {
    private static final Desk D = new Desk();
    private static final String THREE = "kind w 3 1;kind c 2 2;kind t 60 1;meets w c 4;meets c c 10;"
            + "soul a;soul b;soul d;only d t;wish a w;debt a b 9;debt b a 2;debt d a 5;grows 1;";

    public static void main(String[] args) {
        drawing();
        odds();
        judging();
        living();
        saying();
        comparing();
        joining();
        images();
        imagesAndOffices();
        whatWasToldLast();
        D.close("LaterPromiseTest");
    }

    private static void drawing() {
        // seed 1 draws of two: 0 0 0 1 1 0 0 0 0 1
        SoulOffice x = Desk.with("kind k 1 1;kind l 1 2;soul a;soul b;soul c;only c l;");
        D.due("30: a as k, b finds no PLACE, c may not", x.drawn(1, 1), 1);
        D.due("30: births of a", x.soul(0, 2), 1);
        D.due("30: births of b", x.soul(1, 2), 0);
        D.due("10: a DAY went", x.now(0), 1);
        x.undo();
        D.due("30: then a and b as l; c may not again", x.drawn(2, 1), 1 + 2);
        D.due("30: births of a", x.soul(0, 2), 2);
        D.due("30: births of b", x.soul(1, 2), 1);
        D.due("30: births of c", x.soul(2, 2), 0);
        D.due("16: undo()", x.undo(), 0);
        // who lives draws nothing: b's draws are the second, the third ..
        x = Desk.with("kind k 60 2;kind l 1 1;soul a;soul b;only b l;");
        D.due("30: a lives on", x.drawn(3, 1), 1 + 1);
        D.due("30: births of b, by the fourth draw", x.soul(1, 2), 1);
        // seed 2 draws of three: 2 2 1 0 0
        x = Desk.with("kind k 9 1;kind l 9 1;kind m 9 1;soul a;soul b;");
        D.due("30: of three", x.drawn(2, 2), 2);
        D.due("30: a", x.soul(0, 0), 2);
        D.due("30: b finds a PLACE the other DAY", x.soul(1, 0), 1);
        x = Desk.with("kind k 1 1;");
        D.due("30: no SOULS", x.drawn(60, -1), 0);
        D.due("30: the DAYS go", x.now(0), 60);
        x = Desk.with("soul a;");
        D.due("30: no KINDS", x.drawn(1, 1), -1);
        D.due("30: no DAY went", x.now(0), 0);
    }

    private static void odds() {
        // less is owed if both are drawn as l on the first DAY; the clerk never settles anything
        SoulOffice x = Desk.with("kind k 60 9;kind l 1 9;meets l l 5;soul a;soul b;debt a b 9;wish a k;wish b k;");
        D.due("31: forty seeds", x.odds(40, 0), 17);
        D.due("31: seed 2", x.odds(1, 2), 1);
        D.due("31: seed 1", x.odds(1, 1), 0);
        D.due("31: 1 and 2", x.odds(2, 1), 1);
        D.due("31: 1, 2 and 3", x.odds(3, 1), 2);
        D.due("31: seeds wrap", x.odds(40, 2147483644), 16);
        D.due("31: odds(0)", x.odds(0, 1), -1);
        D.due("31: odds(41)", x.odds(41, 1), -1);
        D.due("31: all stays", x.now(0) + x.now(5), 0);
        D.due("31: nothing to undo", x.undo(), -1);
        // the clerk settles 1 a DAY for 30 DAYS, each seed's a and b live as l alone
        x = Desk.with("kind l 1 9;meets l l 1;soul a;soul b;debt a b 90;");
        D.due("31: as much by the clerk", x.odds(40, 0), 0);
        // the clerk gives both out as k and settles 2 a DAY; less is owed only with both drawn as l
        x = Desk.with("kind k 30 9;kind l 60 9;meets k k 2;meets l l 3;soul a;soul b;debt a b 900;");
        D.due("31: both as l", x.odds(40, 0), 17);
        x = Desk.with("kind k 60 9;soul a;soul b;debt a b 9;");
        D.due("31: as much is not less", x.odds(40, 1), 0);
    }

    private static void judging() {
        SoulOffice x = Desk.with(THREE);
        D.due("33: WRONG at 4", Desk.book(x, 0, "a as c;b as c;day 2;a as w;b as w;"), 4);
        D.due("34: no PLACE", x.booked(0), 3);
        D.due("34: LINES ahead", x.booked(1), 4);
        D.due("34: settled in it", x.booked(2), 12);
        D.due("34: all debts then", x.booked(3), 7);
        D.due("34: booked(4)", x.booked(4), -1);
        D.due("34: booked(-1)", x.booked(-1), -1);
        D.due("33: all stays", x.now(0) + x.now(5), 0);
        D.due("33: nothing to undo", x.undo(), -1);
        D.due("33: none WRONG", Desk.book(x, 0, "clerk 1;"), -1);
        D.due("34: not WRONG", x.booked(0), 0);
        D.due("34: all LINES", x.booked(1), 1);
        D.due("34: a as w and b as c", x.booked(2), 4);
        D.due("34: all debts then", x.booked(3), 12 + 3);
        D.due("33: it may not", Desk.book(x, 0, "d as w;"), 0);
        D.due("34: why", x.booked(0), 2);
        D.due("34: LINES ahead", x.booked(1), 0);
        D.due("33: does not wait", Desk.book(x, 0, "a as w;a as c;day 60;"), 1);
        D.due("34: why", x.booked(0), 1);
        D.due("33: a FAULT", Desk.book(x, 0, "a as w;day"), -2 - 10);
        D.due("34: of the latest that had no FAULT", x.booked(0), 1);
        D.due("33: another lives", Desk.book(x, 7, ""), -1000);
        D.due("34: of the latest that was not -1000", x.booked(1), 1);
        D.due("33: no LINES", Desk.book(x, 0, ""), -1);
        D.due("34: no LINES", x.booked(1), 0);
        D.due("34: debts now", x.booked(3), 16);
    }

    private static void living() {
        SoulOffice x = Desk.with(THREE);
        D.due("33: lived as far as not WRONG", Desk.book(x, 1, "a as c;b as c;day 1;b as w;day 9;"), 3);
        D.due("34: settled in it", x.booked(2), 10);
        D.due("10: the DAY", x.now(0), 1);
        D.due("10: settled", x.now(2), 10);
        D.due("15: settled between them", x.settled(0, 1), 10);
        D.due("33: on from there", Desk.book(x, 1, "day 1;"), -1);
        D.due("34: settled in it alone", x.booked(2), 2);
        D.due("10: settled so far", x.now(2), 12);
        D.due("33: by the clerk", Desk.book(x, 1, "clerk 2;"), -1);
        D.due("10: the DAY", x.now(0), 4);
        D.due("10: births", x.now(5), 5);
        D.due("16: a DAYBOOK is one act", x.undo(), 2);
        D.due("16: a DAYBOOK is one act", x.undo(), 1);
        D.due("16: a DAYBOOK is one act", x.undo(), 0);
        D.due("16: all is as it was", x.now(0) + x.now(2) + x.now(5), 0);
        Desk.book(x, 1, "a as w;");
        Desk.office(x, "soul z;");
        D.due("34: what was told last stays", x.booked(1), 1);
    }

    private static int saidBits(SoulOffice x, String text) {
        Desk.sentence(x, text);
        int bits = 0;
        int many = x.said(-1);
        for (int i = 0; i < many; i++) {
            bits |= 1 << x.said(i);
        }
        return bits;
    }

    private static void saying() {
        SoulOffice x = Desk.with(THREE);
        D.due("36: no SENTENCE", x.said(-1), -1);
        D.due("36: no SENTENCE", x.said(0), -1);
        D.due("35: two ONES", Desk.sentence(x, "owes a and waits"), 2);
        D.due("36: how many", x.said(-1), 2);
        D.due("36: the first", x.said(0), 1);
        D.due("36: the second", x.said(1), 2);
        D.due("36: said(2)", x.said(2), -1);
        D.due("36: said(-2)", x.said(-2), -1);
        D.due("35: a FAULT", Desk.sentence(x, "waits and"), -10);
        D.due("36: it stays", x.said(0), 1);
        x.give(1, 1);
        D.due("36: of what is so now", x.said(0), 2);
        D.due("36: as", saidBits(x, "as c"), 2);
        D.due("36: as", saidBits(x, "as w"), 0);
        D.due("36: waits", saidBits(x, "waits"), 5);
        D.due("36: owes", saidBits(x, "owes b"), 1);
        D.due("36: owes", saidBits(x, "owes d"), 0);
        D.due("36: of none", x.said(0), -1);
        D.due("36: of none, how many", x.said(-1), 0);
        D.due("36: a new OFFICE", Desk.office(x, THREE), 14);
        D.due("36: no SENTENCE then", x.said(-1), -1);
    }

    private static void comparing() {
        SoulOffice x = Desk.with(THREE);
        D.due("36: debts of 9 2 5", saidBits(x, "debts < 5"), 2);
        D.due("36: debts of 9 2 5", saidBits(x, "debts = 5"), 4);
        D.due("36: debts of 9 2 5", saidBits(x, "debts > 2"), 5);
        D.due("36: dues of 7 9 0", saidBits(x, "dues > 7"), 2);
        D.due("36: dues of 7 9 0", saidBits(x, "dues < 1"), 4);
        D.due("36: dues of 7 9 0", saidBits(x, "dues = 7"), 1);
        D.due("36: place", saidBits(x, "place = 1"), 2);
        D.due("36: place", saidBits(x, "place < 2"), 3);
        D.due("36: place", saidBits(x, "place > 0"), 6);
        x.give(0, 0);
        x.days(1);
        x.give(1, 1);
        D.due("36: left of 2 2 0", saidBits(x, "left = 2"), 3);
        D.due("36: left of 2 2 0", saidBits(x, "left = 0"), 4);
        D.due("36: left of 2 2 0", saidBits(x, "left > 2"), 0);
        D.due("36: births of 1 1 0", saidBits(x, "births > 0"), 3);
        D.due("36: births of 1 1 0", saidBits(x, "births = 0"), 4);
        D.due("36: births of 1 1 0", saidBits(x, "births < 2"), 7);
    }

    private static void joining() {
        SoulOffice x = Desk.with("soul a;soul b;soul c;soul d;soul e;soul f;soul g;soul h;");
        D.due("36: and ahead of or", saidBits(x, "place=0 or place=1 and place=2"), 1);
        D.due("36: and ahead of or", saidBits(x, "place=0 and place=1 or place=2"), 4);
        D.due("36: brackets", saidBits(x, "(place=0 or place=1) and place<1"), 1);
        D.due("36: brackets", saidBits(x, "place=7 and (place=0 or place=7)"), 128);
        D.due("36: not is of one", saidBits(x, "not place=0 or place=0"), 255);
        D.due("36: not is of one", saidBits(x, "not place=0 and place<3"), 6);
        D.due("36: not of a bracket", saidBits(x, "not (place=0 or place>2)"), 6);
        D.due("36: not", saidBits(x, "not place=3"), 247);
        D.due("36: not not", saidBits(x, "not not place=3"), 8);
        D.due("36: many", saidBits(x, "place=0 or place=2 or place=4 or place=6"), 85);
        D.due("36: many", saidBits(x, "place>1 and place<6 and not place=3"), 52);
        D.due("35: ONES", Desk.sentence(x, "not (place=0 or not place>2) and waits"), 6);
    }

    private static void images() {
        SoulOffice x = Desk.with(THREE);
        D.due("37: image(2)", x.image(2), false);
        D.due("37: image(-1)", x.image(-1), false);
        D.due("38: nothing is kept", x.restore(0), false);
        D.due("38: restore(2)", x.restore(2), false);
        D.due("38: restore(-1)", x.restore(-1), false);
        Desk.sentence(x, "waits");
        x.give(0, 1);
        x.give(1, 1);
        x.days(1);
        D.due("37: image(1)", x.image(1), true);
        D.due("16: an image leaves what can be undone", x.undo(), 2);
        D.due("38: restore(1)", x.restore(1), true);
        D.due("38: nothing in the other place", x.restore(0), false);
        D.due("38: the DAY", x.now(0), 1);
        D.due("38: settled", x.now(2), 10);
        D.due("38: grown", x.now(3), 2);
        D.due("38: births", x.now(5), 2);
        D.due("38: debts", x.debt(1, 0), 2);
        D.due("38: DAYS left", x.soul(0, 1), 1);
        D.due("38: the SENTENCE", x.said(0), 2);
        D.due("38: nothing can be undone", x.undo(), -1);
        x.days(5);
        D.due("38: once more", x.restore(1), true);
        D.due("38: as kept", x.now(0), 1);
        x.days(5);
        D.due("37: kept anew", x.image(1), true);
        x.days(5);
        x.restore(1);
        D.due("38: as kept anew", x.now(0), 6);
        // PLACES of today
        x = Desk.with(THREE);
        x.give(0, 0);
        x.image(0);
        x.days(1);
        x.restore(0);
        D.due("38: PLACES left", x.kind(0, 2), 0);
        D.due("38: today", x.soul(0, 7), 1);
        D.due("38: an appeal, too", x.appeal(0, 1), 1);
    }

    private static void imagesAndOffices() {
        SoulOffice x = Desk.with(THREE);
        x.image(0);
        Desk.sentence(x, "place = 0");
        x.image(1);
        x.most(1);
        Desk.office(x, "kind z 1 1;soul y;debt");
        Desk.office(x, "kind z 5 1;soul y;grows 7;");
        Desk.sentence(x, "as z");
        Desk.were(x, 0, 0, 1);
        x.feed(0, 0, 0, 0, 0);
        D.due("38: another OFFICE", x.restore(1), true);
        D.due("38: the tape stays", x.count(3), 20);
        D.due("38: KINDS", x.count(0), 3);
        D.due("38: SOULS", x.count(1), 3);
        D.due("38: grows", x.count(2), 1);
        D.due("38: DAYS of a KIND", x.kind(0, 0), 3);
        D.due("38: meets", x.meets(0, 1), 4);
        D.due("38: wish", x.soul(0, 4), 0);
        D.due("38: only", x.soul(2, 3), 4);
        D.due("38: debts", x.now(1), 16);
        D.due("38: the SENTENCE", x.said(0), 0);
        D.due("38: what others told last stays", x.gives(0), 1);
        D.due("38: NAMES", Desk.book(x, 0, "d as t;"), -1);
        D.due("38: NAMES", Desk.book(x, 0, "y as z;"), -2);
        D.due("38: it can go on", Desk.book(x, 1, "clerk 2;a as c;"), 1);
        D.due("38: without a SENTENCE", x.restore(0), true);
        D.due("38: without a SENTENCE", x.said(-1), -1);
        D.due("38: DAY 0", x.now(0), 0);
        D.due("38: both are kept", x.restore(1), true);
        D.due("38: with a SENTENCE", x.said(-1), 1);
    }

    private static void whatWasToldLast() {
        SoulOffice x = new SoulOffice();
        x.image(0);
        Desk.office(x, THREE);
        x.most(1);
        Desk.were(x, 0, 1, 10);
        Desk.book(x, 0, "clerk 2;a as c;b as t;a as w;");
        int[] ahead = lastAnswers(x);
        D.due("18: as c", ahead[0], 1);
        D.due("24: the second KIND", ahead[9], 1);
        D.due("34: LINES ahead", ahead[12], 1);
        same("4: behind another OFFICE", ahead, x, Desk.office(x, "kind z 1 1;"));
        same("4: behind an OFFICE without LINES", ahead, x, Desk.office(x, ""));
        D.due("38: no SOULS", x.restore(0), true);
        same("38: behind an image put back", ahead, x, x.count(1));
        x.days(1);
        D.due("16: undo()", x.undo(), 0);
        same("16: behind undo()", ahead, x, 0);
    }

    private static void same(String what, int[] due, SoulOffice x, int answer) {
        int[] now = lastAnswers(x);
        for (int i = 0; i < due.length; i++) {
            D.due(what + " (" + answer + "), answer " + i, now[i], due[i]);
        }
    }

    /** gives() of all, first() and booked(), in their order. */
    private static int[] lastAnswers(SoulOffice x) {
        int[] all = new int[15];
        for (int s = 0; s < 8; s++) {
            all[s] = x.gives(s);
        }
        for (int what = 0; what < 3; what++) {
            all[8 + what] = x.first(what);
        }
        for (int what = 0; what < 4; what++) {
            all[11 + what] = x.booked(what);
        }
        return all;
    }
}
