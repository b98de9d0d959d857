/** Promise by promise (but for texts, which TextTest has), what the document tells, by hand. */
public final class PromiseTest {
    private static final Desk D = new Desk();
    private static final String THREE = "kind w 3 1;kind c 2 2;kind t 60 1;meets w c 4;meets c c 10;"
            + "soul a;soul b;soul d;only d t;wish a w;debt a b 9;debt b a 2;debt d a 5;grows 1;";
    // eight SOULS, and PLACES for all of them
    private static final String EIGHT = "kind k 6 9;kind l 1 9;meets k k 1;soul a;soul b;soul c;soul d;"
            + "soul e;soul f;soul g;soul h;";

    public static void main(String[] args) {
        aNewObject();
        kindsAndMeetings();
        soulsAndDebts();
        whatIsNow();
        givingOut();
        daysGo();
        settlingInADay();
        growing();
        byTheClerk();
        settledLatest();
        undoing();
        beginningAnew();
        mostSettled();
        mostOfLikeWays();
        mostAndThoseWhoLive();
        mostByLivesOfUnlikeLength();
        hopelessDebts();
        nets();
        whatTheyWere();
        appeals();
        grants();
        grantsAmongOthers();
        D.close("PromiseTest");
    }

    private static void aNewObject() {
        SoulOffice x = new SoulOffice();
        for (int what = 0; what < 4; what++) {
            D.due("1: count", x.count(what), 0);
        }
        D.due("39: count(4)", x.count(4), -1);
        D.due("39: count(-1)", x.count(-1), -1);
        for (int what = 0; what < 7; what++) {
            D.due("1: now", x.now(what), 0);
        }
        D.due("6: kind(0, 0)", x.kind(0, 0), -1);
        D.due("7: meets(0, 0)", x.meets(0, 0), -1);
        D.due("9: debt(0, 0)", x.debt(0, 0), -1);
        D.due("11: why(0, 0)", x.why(0, 0), -1);
        D.due("16: undo()", x.undo(), -1);
        D.due("17: most(30)", x.most(30), 0);
        D.due("18: gives(0)", x.gives(0), -1);
        D.due("24: first(0)", x.first(0), -1);
        D.due("32: greatest(0)", x.greatest(0), -1);
        D.due("34: booked(0)", x.booked(0), -1);
        D.due("36: said(-1)", x.said(-1), -1);
        D.throwsSoul(x, 0, 0);
        D.throwsNet(x, 0);
        D.due("13: days(3)", x.days(3), 3);
        D.due("27: ends() with nobody", x.ends(), 3);
        D.due("30: drawn without KINDS", x.drawn(1, 1), -1);
        D.due("31: odds without KINDS", x.odds(1, 1), -1);
        D.due("28: later without debts", x.later(60), 0);
    }

    private static void kindsAndMeetings() {
        SoulOffice x = Desk.with(THREE);
        D.due("39: KINDS", x.count(0), 3);
        D.due("39: SOULS", x.count(1), 3);
        D.due("39: grows", x.count(2), 1);
        D.due("6: DAYS", x.kind(0, 0), 3);
        D.due("6: DAYS", x.kind(2, 0), 60);
        D.due("6: PLACES", x.kind(1, 1), 2);
        D.due("6: what 4", x.kind(1, 4), -1);
        D.due("6: what -1", x.kind(1, -1), -1);
        D.due("6: kind -1", x.kind(-1, 0), -1);
        D.due("6: kind 3", x.kind(3, 0), -1);
        D.due("6: kind 6", x.kind(6, 0), -1);
        x.give(0, 1);
        D.due("6: PLACES left", x.kind(1, 2), 1);
        D.due("6: one lives so", x.kind(1, 3), 1);
        D.due("6: PLACES are as told", x.kind(1, 1), 2);
        x.give(1, 1);
        D.due("6: no PLACES left", x.kind(1, 2), 0);
        D.due("6: two live so", x.kind(1, 3), 2);
        D.due("6: another KIND's", x.kind(0, 2), 1);
        x.days(1);
        D.due("6: PLACES are free again", x.kind(1, 2), 2);
        D.due("6: two live so yet", x.kind(1, 3), 2);
        x.days(1);
        D.due("6: none lives so any more", x.kind(1, 3), 0);
        D.due("7: meets", x.meets(0, 1), 4);
        D.due("7: meets turned", x.meets(1, 0), 4);
        D.due("7: meets alike", x.meets(1, 1), 10);
        D.due("7: meets untold", x.meets(2, 0), 0);
        D.due("7: meets alike untold", x.meets(0, 0), 0);
        D.due("7: meets(0, 3)", x.meets(0, 3), -1);
        D.due("7: meets(-1, 0)", x.meets(-1, 0), -1);
    }

    private static void soulsAndDebts() {
        SoulOffice x = Desk.with(THREE);
        D.due("8: it waits", x.soul(0, 0), -1);
        D.due("8: no DAYS left", x.soul(0, 1), 0);
        D.due("8: births", x.soul(0, 2), 0);
        D.due("8: may be all", x.soul(0, 3), 7);
        D.due("8: may be one", x.soul(2, 3), 4);
        D.due("8: wishes", x.soul(0, 4), 0);
        D.due("8: wishes nothing", x.soul(1, 4), -1);
        D.due("8: owes", x.soul(0, 5), 9);
        D.due("8: is owed", x.soul(0, 6), 7);
        D.due("8: not today", x.soul(0, 7), 0);
        D.throwsSoul(x, 3, 0);
        D.throwsSoul(x, -1, 0);
        D.throwsSoul(x, 0, 8);
        D.throwsSoul(x, 0, -1);
        D.throwsSoul(x, 8, 8);
        x.give(0, 2);
        D.due("8: lives as", x.soul(0, 0), 2);
        D.due("8: DAYS left", x.soul(0, 1), 60);
        D.due("8: births", x.soul(0, 2), 1);
        D.due("8: today", x.soul(0, 7), 1);
        x.days(59);
        D.due("8: the last DAY", x.soul(0, 1), 1);
        D.due("8: not today any more", x.soul(0, 7), 0);
        D.due("8: lives yet", x.soul(0, 0), 2);
        x.days(1);
        D.due("8: waits again", x.soul(0, 0), -1);
        D.due("8: births stay", x.soul(0, 2), 1);
        x = Desk.with(THREE);
        D.due("9: debt", x.debt(0, 1), 9);
        D.due("9: debt back", x.debt(1, 0), 2);
        D.due("9: no debt", x.debt(0, 2), 0);
        D.due("9: to itself", x.debt(1, 1), 0);
        D.due("9: debt(0, 3)", x.debt(0, 3), -1);
        D.due("9: debt(3, 0)", x.debt(3, 0), -1);
        D.due("9: debt(-1, 0)", x.debt(-1, 0), -1);
        D.due("32: owes most", x.greatest(0), 0);
        D.due("32: is owed most", x.greatest(1), 1);
        D.due("32: births, all alike", x.greatest(2), 0);
        D.due("32: greatest(3)", x.greatest(3), -1);
        D.due("32: greatest(-1)", x.greatest(-1), -1);
        x.give(2, 2);
        D.due("32: births", x.greatest(2), 2);
        x.give(1, 1);
        D.due("32: of like ones the first", x.greatest(2), 1);
        x = Desk.with("soul a;soul b;soul c;debt c a 5;debt b c 5;");
        D.due("32: of like debtors the first", x.greatest(0), 1);
        D.due("32: of like creditors the first", x.greatest(1), 0);
    }

    private static void whatIsNow() {
        SoulOffice x = Desk.with(THREE);
        D.due("10: DAY", x.now(0), 0);
        D.due("10: all debts", x.now(1), 16);
        D.due("10: settled", x.now(2), 0);
        D.due("10: grown", x.now(3), 0);
        D.due("10: waiting", x.now(4), 3);
        D.due("10: births", x.now(5), 0);
        D.due("10: pairs, both ways twice", x.now(6), 3);
        D.due("10: now(7)", x.now(7), -1);
        D.due("10: now(-1)", x.now(-1), -1);
        x.give(0, 1);
        x.give(1, 1);
        D.due("10: waiting", x.now(4), 1);
        D.due("10: births", x.now(5), 2);
        x.days(2);
        // DAY 1: a owes b 9, b owes a 2; 10 are settled, 1 is left and grows; DAY 2: 2 are settled
        D.due("10: DAY", x.now(0), 2);
        D.due("10: settled so far", x.now(2), 12);
        D.due("10: grown so far", x.now(3), 3);
        D.due("10: all debts", x.now(1), 7);
        D.due("10: pairs", x.now(6), 1);
        D.due("10: all wait again", x.now(4), 3);
        D.due("10: births stay", x.now(5), 2);
    }

    private static void givingOut() {
        SoulOffice x = Desk.with(THREE);
        D.due("11: it can", x.why(0, 0), 0);
        D.due("11: may not be that", x.why(2, 0), 2);
        D.due("11: why(3, 0)", x.why(3, 0), -1);
        D.due("11: why(0, 3)", x.why(0, 3), -1);
        D.due("11: why(-1, 0)", x.why(-1, 0), -1);
        D.due("12: give(0, -1)", x.give(0, -1), -1);
        D.due("12: give(3, 0)", x.give(3, 0), -1);
        D.due("12: may not be that", x.give(2, 1), 2);
        D.due("12: nothing happened", x.now(5), 0);
        D.due("12: given out", x.give(0, 0), 0);
        D.due("11: no PLACE is left", x.why(1, 0), 3);
        D.due("12: no PLACE is left", x.give(1, 0), 3);
        D.due("11: the least: it may not", x.why(2, 0), 2);
        D.due("11: does not wait", x.why(0, 1), 1);
        D.due("11: does not wait, and no PLACE", x.why(0, 0), 1);
        D.due("12: does not wait", x.give(0, 1), 1);
        D.due("12: another one", x.give(2, 2), 0);
        D.due("11: does not wait, and may not", x.why(2, 0), 1);
        D.due("12: one more birth alone", x.now(5), 2);
        x.days(1);
        D.due("11: the PLACE is free again", x.why(1, 0), 0);
        D.due("12: with one who lives so", x.give(1, 0), 0);
        D.due("6: two live so by PLACES a DAY", x.kind(0, 3), 2);
    }

    private static void daysGo() {
        SoulOffice x = Desk.with(THREE);
        D.due("13: days(0)", x.days(0), -1);
        D.due("13: days(61)", x.days(61), -1);
        D.due("13: days(-1)", x.days(-1), -1);
        D.due("14: clerk(0)", x.clerk(0), -1);
        D.due("14: clerk(61)", x.clerk(61), -1);
        D.due("30: drawn(0)", x.drawn(0, 1), -1);
        D.due("30: drawn(61)", x.drawn(61, 1), -1);
        D.due("16: none of these was done", x.undo(), -1);
        D.due("13: days(1)", x.days(1), 1);
        D.due("13: days(60)", x.days(60), 61);
        D.due("14: clerk(60)", x.clerk(60), 121);
        for (int day = 181; day <= 9961; day += 60) {
            D.due("13: days(60)", x.days(60), day);
        }
        D.due("13: above 9999", x.days(39), -1);
        D.due("14: above 9999", x.clerk(39), -1);
        D.due("30: above 9999", x.drawn(39, 1), -1);
        D.due("33: above 9999", Desk.book(x, 0, "day 38;clerk 1;"), 1);
        D.due("34: above 9999", x.booked(0), 4);
        D.due("34: LINES ahead", x.booked(1), 1);
        D.due("33: above 9999", Desk.book(x, 0, "clerk 38;day 1;"), 1);
        D.due("34: above 9999", x.booked(0), 4);
        D.due("33: 9999 itself", Desk.book(x, 0, "day 37;clerk 1;"), -1);
        D.due("14: to 9999", x.clerk(38), 9999);
        D.due("13: at the last DAY", x.days(1), -1);
        D.due("28: later() goes on", x.later(60) > 0, true);
        D.due("17: most() goes on", x.most(30) >= 0, true);
        D.due("33: a LINE that can't go", Desk.book(x, 1, "clerk 1;"), 0);
        D.due("16: nothing was lived", x.undo(), 7);
        D.due("16: the DAY is back", x.now(0), 9961);
    }

    private static void settlingInADay() {
        SoulOffice x = Desk.with(THREE);
        x.give(0, 1);
        x.give(1, 1);
        D.due("13: a DAY", x.days(1), 1);
        D.due("13: the first one's debt is less", x.debt(0, 1), 0);
        D.due("13: what is over makes the second one's less, and it grows", x.debt(1, 0), 2);
        D.due("13: another one's debt grows", x.debt(2, 0), 6);
        x = Desk.with("kind k 9 9;meets k k 5;soul a;soul b;soul c;debt a b 3;debt b a 7;debt b c 4;");
        x.give(1, 0);
        x.days(1);
        D.due("13: one alone settles nothing", x.now(2), 0);
        x.give(0, 0);
        x.days(1);
        D.due("13: 3 of the first one's", x.debt(0, 1), 0);
        D.due("13: 2 of the second one's", x.debt(1, 0), 5);
        x.give(2, 0);
        x.days(1);
        D.due("13: each pair settles", x.now(2), 14);
        D.due("13: the lesser SOUL's debt first", x.debt(1, 2), 0);
        D.due("13: no debt, nothing settled", x.settled(0, 2), 0);
        // a lives on DAYS 1 and 2, b on DAYS 2 and 3: they meet once
        x = Desk.with("kind k 2 9;meets k k 1;soul a;soul b;debt a b 9;");
        x.give(0, 0);
        x.days(1);
        x.give(1, 0);
        x.days(1);
        D.due("13: the last DAY is lived", x.now(2), 1);
        x.days(1);
        D.due("13: then it waits", x.now(2), 1);
        D.due("13: and the other one's last DAY", x.soul(1, 0), -1);
    }

    private static void growing() {
        SoulOffice x = Desk.with("kind k 1 9;meets k k 4;soul a;soul b;debt a b 4;debt b a 1;grows 9;");
        x.give(0, 0);
        x.give(1, 0);
        x.days(1);
        D.due("13: what is settled whole does not grow", x.debt(0, 1), 0);
        D.due("13: what is left grows", x.debt(1, 0), 10);
        D.due("10: by how much", x.now(3), 9);
        x.days(60);
        D.due("13: each DAY", x.debt(1, 0), 550);
        D.due("10: by how much", x.now(3), 549);
        x = Desk.with("soul a;soul b;debt a b 999;grows 9;");
        for (int i = 0; i < 166; i++) {
            x.days(60);
        }
        x.days(39);
        D.due("13: for all DAYS", x.debt(0, 1), 999 + 9 * 9999);
        D.due("28: and later", x.later(60), 999 + 9 * 10059);
    }

    private static void byTheClerk() {
        SoulOffice x = Desk.with(THREE);
        D.due("29: queue(0)", x.queue(0), 1);
        D.due("29: queue(1)", x.queue(1), 2);
        D.due("29: queue(2)", x.queue(2), 4);
        D.due("29: queue(3)", x.queue(3), -1);
        D.due("29: queue(-1)", x.queue(-1), -1);
        D.due("29: nothing happens", x.now(5), 0);
        x.give(0, 1);
        D.due("29: who lives is not given out", x.queue(1), 0);
        D.due("29: the first KIND with a PLACE", x.queue(0), 2);
        D.due("14: clerk(1)", x.clerk(1), 1);
        D.due("14: as told", x.soul(1, 0), 0);
        D.due("14: only so", x.soul(2, 0), 2);
        D.due("14: a DAY went", x.soul(2, 1), 59);
        // the wish is no KIND that it may be; b's wish has no PLACE any more; c finds no PLACE
        x = Desk.with("kind k 1 1;kind l 1 1;soul a;soul b;soul c;only a l;wish a k;wish b l;wish c l;");
        D.due("29: not as it wishes", x.queue(1), 1);
        D.due("29: not as it wishes", x.queue(0), 2);
        D.due("14: clerk(1)", x.clerk(1), 1);
        D.due("14: two were given out", x.now(5), 2);
        D.due("14: one waits on", x.soul(2, 2), 0);
        D.due("14: clerk(2)", x.clerk(2), 3);
        D.due("14: each DAY anew", x.now(5), 6);
        // wishes go ahead of KINDS that are ahead
        x = Desk.with("kind k 1 9;kind l 1 9;soul a;soul b;wish b l;");
        D.due("29: the first KIND", x.queue(0), 1);
        D.due("29: the wish", x.queue(1), 2);
        x = Desk.with("kind k 1 3;soul a;soul b;soul c;soul d;");
        D.due("29: as many as there are PLACES", x.queue(0), 7);
        // settling: k and k meet, 5 a DAY, each life of 2 DAYS
        x = Desk.with("kind w 2 2;meets w w 5;soul a;soul b;debt a b 12;");
        D.due("27: ends()", x.ends(), 3);
        D.due("27: all stays", x.now(0), 0);
        D.due("28: later(1)", x.later(1), 7);
        D.due("28: later(2)", x.later(2), 2);
        D.due("28: later(60)", x.later(60), 0);
        D.due("28: later(0)", x.later(0), -1);
        D.due("28: later(61)", x.later(61), -1);
        x.clerk(2);
        D.due("27: the DAY as now(0) tells it", x.ends(), 3);
        x.clerk(3);
        D.due("27: that of now", x.ends(), 5);
        // 2 a DAY: 400 DAYS at most
        x = Desk.with("kind w 1 2;meets w w 2;soul a;soul b;debt a b 800;");
        D.due("27: at 400 DAYS", x.ends(), 400);
        x = Desk.with("kind w 1 2;meets w w 2;soul a;soul b;debt a b 801;");
        D.due("27: beyond 400 DAYS", x.ends(), -1);
        x.clerk(1);
        D.due("27: 400 DAYS from now on", x.ends(), 401);
        x = Desk.with("kind w 1 2;meets w w 2;soul a;soul b;debt a b 3;grows 2;");
        D.due("27: it grows", x.ends(), -1);
    }

    private static void settledLatest() {
        SoulOffice x = Desk.with(THREE);
        D.due("15: no DAY went yet", x.settled(0, 1), -1);
        x.give(0, 1);
        x.give(1, 1);
        x.days(1);
        D.due("15: settled(0, 1)", x.settled(0, 1), 10);
        D.due("15: settled(1, 0)", x.settled(1, 0), 10);
        D.due("15: settled(0, 2)", x.settled(0, 2), 0);
        D.due("15: alike", x.settled(1, 1), -1);
        D.due("15: settled(0, 3)", x.settled(0, 3), -1);
        D.due("15: settled(-1, 0)", x.settled(-1, 0), -1);
        x.image(0);
        x.days(1);
        D.due("15: the latest DAY", x.settled(0, 1), 2);
        x.days(1);
        D.due("15: nothing", x.settled(0, 1), 0);
        x.undo();
        D.due("15: of those not undone", x.settled(0, 1), 2);
        x.undo();
        D.due("15: of those not undone", x.settled(0, 1), 10);
        x.undo();
        D.due("15: none is left", x.settled(0, 1), -1);
        x.restore(0);
        D.due("15: as kept", x.settled(0, 1), 10);
        Desk.office(x, THREE);
        D.due("15: a new OFFICE", x.settled(0, 1), -1);
    }

    private static void undoing() {
        SoulOffice x = Desk.with(EIGHT);
        for (int s = 0; s < 8; s++) {
            x.give(s, 0);
        }
        x.give(0, 1);
        x.days(2);
        x.days(0);
        for (int left = 7; left >= 0; left--) {
            D.due("16: undo()", x.undo(), left);
        }
        D.due("16: eight at most", x.undo(), -1);
        D.due("16: the first act stays", x.now(5), 1);
        D.due("16: the DAY is back", x.now(0), 0);
        D.due("16: PLACES are back", x.kind(0, 2), 8);
        // each sort of act
        x = Desk.with(THREE);
        x.give(0, 1);
        x.grant(0, 0);
        x.clerk(1);
        x.drawn(2, 1);
        Desk.book(x, 1, "day 1;");
        Desk.book(x, 0, "day 1;");
        Desk.book(x, 1, "a as w;a as w;");
        Desk.book(x, 1, "");
        Desk.book(x, 1, "day 61;");
        x.give(2, 0);
        x.grant(0, 0);
        x.image(0);
        D.due("10: the DAY", x.now(0), 4);
        D.due("16: a DAYBOOK of which a LINE was lived", x.undo(), 5);
        D.due("16: no birth of it", x.soul(0, 7), 0);
        D.due("16: a DAYBOOK", x.undo(), 4);
        D.due("16: the DAY", x.now(0), 3);
        D.due("16: drawn()", x.undo(), 3);
        D.due("16: the DAY", x.now(0), 1);
        D.due("16: clerk()", x.undo(), 2);
        D.due("16: the DAY", x.now(0), 0);
        D.due("16: an appeal", x.undo(), 1);
        D.due("16: the KIND", x.soul(0, 0), 1);
        D.due("16: give()", x.undo(), 0);
        D.due("16: it waits", x.soul(0, 0), -1);
        D.due("16: nothing is left", x.undo(), -1);
        x.days(1);
        D.due("38: restore()", x.restore(0), true);
        D.due("16: nothing can be undone", x.undo(), -1);
        x.days(1);
        Desk.office(x, THREE);
        D.due("16: nor behind a new OFFICE", x.undo(), -1);
        x.days(1);
        Desk.office(x, "kind");
        D.due("16: a FAULT leaves it", x.undo(), 0);
    }

    private static void beginningAnew() {
        SoulOffice x = Desk.with(THREE);
        x.give(0, 1);
        x.give(1, 1);
        x.days(1);
        x.give(2, 2);
        D.due("16: undo()", x.undo(), 3);
        D.due("16: undo()", x.undo(), 2);
        D.due("16: what grew is back", x.now(3), 0);
        D.due("16: what was settled is back", x.now(2), 0);
        D.due("16: DAYS left are back", x.soul(0, 1), 2);
        D.due("16: today is back", x.soul(0, 7), 1);
        D.due("16: debts are back", x.now(1), 16);
        x.days(1);
        x.give(2, 2);
        Desk.office(x, THREE);
        D.due("4: DAY 0", x.now(0), 0);
        D.due("4: nothing settled", x.now(2), 0);
        D.due("4: nothing grown", x.now(3), 0);
        D.due("4: no births", x.now(5), 0);
        for (int s = 0; s < 3; s++) {
            D.due("4: all wait", x.soul(s, 0), -1);
            D.due("4: no DAYS left", x.soul(s, 1), 0);
            D.due("4: not born", x.soul(s, 2), 0);
            D.due("4: not today", x.soul(s, 7), 0);
        }
        D.due("4: PLACES are free", x.kind(2, 2), 1);
        D.due("4: debts as told", x.now(1), 16);
        Desk.office(x, "kind w 1 1;kind c 1 1;kind t 1 1;soul a;soul b;soul d;debt b a 3;");
        D.due("4: no debts of another OFFICE", x.now(1), 3);
        D.due("4: no meets of another OFFICE", x.meets(1, 1), 0);
        D.due("4: no wish of another OFFICE", x.soul(0, 4), -1);
        D.due("4: no 'only' of another OFFICE", x.soul(2, 3), 7);
        D.due("4: no 'grows' of another OFFICE", x.count(2), 0);
    }

    private static void mostSettled() {
        SoulOffice x = Desk.with("kind x 1 9;kind y 10 9;meets x x 10;meets y y 3;soul a;soul b;debt a b 100;");
        D.due("17: most(0)", x.most(0), -1);
        D.due("17: most(31)", x.most(31), -1);
        D.due("18: ahead of any", x.gives(0), -1);
        D.due("17: most(1)", x.most(1), 10);
        D.due("18: as x", x.gives(0), 0);
        D.due("18: as x", x.gives(1), 0);
        D.due("17: most(4)", x.most(4), 12);
        D.due("18: as y", x.gives(0), 1);
        D.due("18: as y", x.gives(1), 1);
        D.due("17: most(30), a life of 10 DAYS", x.most(30), 30);
        D.due("17: most(-1)", x.most(-1), -1);
        D.due("18: NONE leaves it", x.gives(1), 1);
        D.due("18: gives(2)", x.gives(2), -1);
        D.due("18: gives(-1)", x.gives(-1), -1);
        D.due("17: nothing happens", x.now(4), 2);
        Desk.office(x, "kind k 1 1;soul s;");
        D.due("18: what was told last stays", x.gives(0), 1);
        D.due("18: also of a SOUL that is there no more", x.gives(1), 1);
        D.due("18: gives(2)", x.gives(2), -1);
        D.due("18: gives(8)", x.gives(8), -1);
        D.due("18: gives(-1)", x.gives(-1), -1);
        Desk.office(x, "");
        D.due("18: without SOULS", x.gives(0), 1);
        D.due("18: without SOULS", x.gives(1), 1);
        D.due("17: most(0)", x.most(0), -1);
        D.due("18: NONE leaves it", x.gives(1), 1);
        Desk.office(x, "kind k 1 1;soul s;");
        D.due("17: most(1)", x.most(1), 0);
        D.due("18: not given out", x.gives(0), -1);
        D.due("18: no SOUL of the latest most()", x.gives(1), -1);
        Desk.office(x, "kind x 1 9;soul a;soul b;");
        D.due("18: no SOUL of the latest most()", x.gives(1), -1);
        x = Desk.with("kind k 3 9;meets k k 4;soul a;soul b;debt a b 5;grows 2;");
        D.due("17: debts grow", x.most(3), 7);
        x = Desk.with("kind k 3 9;meets k k 4;soul a;soul b;debt a b 5;debt b a 5;grows 1;");
        // 4 | 1+1, 5+1: 2, 2 | 0, 4+1: 4
        D.due("17: the second one's, too", x.most(3), 12);
        x = Desk.with("kind k 3 1;kind l 3 9;meets k l 1;meets l l 9;soul a;soul b;only a k;debt b a 50;");
        D.due("17: what it may be", x.most(2), 2);
        D.due("18: a", x.gives(0), 0);
        D.due("18: b", x.gives(1), 1);
        x = Desk.with("kind k 3 1;meets k k 1;soul a;soul b;debt b a 50;");
        D.due("17: one PLACE", x.most(2), 0);
        x = Desk.with(EIGHT);
        D.due("17: eight wait", x.most(1), -1);
        x.give(0, 0);
        x.give(1, 0);
        D.due("17: six wait", x.most(1), -1);
        x.give(2, 0);
        D.due("17: five wait", x.most(1), 0);
    }

    private static void mostOfLikeWays() {
        SoulOffice x = Desk.with("kind k 1 1;kind l 1 9;meets k l 3;meets l l 3;soul a;soul b;soul c;debt a c 9;");
        D.due("17: most", x.most(1), 3);
        D.due("18: the first KIND", x.gives(0), 0);
        D.due("18: not ahead of all", x.gives(1), -1);
        D.due("18: the first that settles as much", x.gives(2), 1);
        x = Desk.with("kind k 1 1;kind l 1 9;meets k l 3;meets l l 3;soul a;soul b;soul c;");
        D.due("17: nothing to settle", x.most(30), 0);
        for (int s = 0; s < 3; s++) {
            D.due("18: not", x.gives(s), -1);
        }
        x = Desk.with("kind k 1 2;kind l 1 2;meets k l 5;soul a;soul b;soul c;soul d;"
                + "debt a b 5;debt b c 5;debt c d 5;debt d a 5;");
        D.due("17: round", x.most(1), 20);
        D.due("18: k", x.gives(0), 0);
        D.due("18: l", x.gives(1), 1);
        D.due("18: k", x.gives(2), 0);
        D.due("18: l", x.gives(3), 1);
    }

    private static void mostAndThoseWhoLive() {
        SoulOffice x = Desk.with("kind k 2 2;kind l 9 9;meets k k 7;meets l l 1;meets k l 2;soul a;soul b;soul c;"
                + "debt a b 90;debt b c 90;");
        x.give(0, 1);
        x.give(1, 1);
        x.days(1);
        D.due("17: those who live settle on", x.most(3), 3 + 4);
        D.due("18: c as k: 2 DAYS of 2", x.gives(2), 0);
        D.due("18: who lives is not given out", x.gives(0), -1);
        D.due("17: more DAYS", x.most(30), 8 + 8);
        D.due("18: c as l: 8 DAYS of 1", x.gives(2), 1);
        x.give(2, 0);
        D.due("17: nobody waits", x.most(1), 3);
        D.due("18: not", x.gives(2), -1);
        // each by what it settles with one who lives: a way that begins with less comes to more
        x = Desk.with("kind k 1 9;kind l 1 9;meets k l 1;meets l l 5;soul a;soul b;soul c;only a l;only b k;only c l;"
                + "debt a b 90;debt a c 90;");
        x.give(0, 1);
        D.due("17: both with a", x.most(1), 6);
        D.due("18: b", x.gives(1), 0);
        D.due("18: c", x.gives(2), 1);
        // the PLACES that are left today
        x = Desk.with("kind k 5 1;kind l 5 1;meets k k 9;meets k l 1;soul a;soul b;debt a b 90;");
        x.give(0, 0);
        D.due("17: no PLACE as k today", x.most(1), 1);
        x.days(1);
        D.due("17: a PLACE as k", x.most(1), 9);
    }

    private static void mostByLivesOfUnlikeLength() {
        String laws = "kind k 2 9;kind l 9 9;meets k l 1;soul a;soul b;debt a b 90;";
        SoulOffice x = Desk.with(laws + "only a k;only b l;");
        D.due("17: as long as both live", x.most(30), 2);
        x.give(0, 0);
        D.due("17: one lives already", x.most(30), 2);
        x.give(1, 1);
        D.due("17: both live already", x.most(30), 2);
        x = Desk.with(laws + "only a l;only b k;");
        D.due("17: the other way round", x.most(30), 2);
        x.give(0, 1);
        x.days(8);
        D.due("17: one DAY is left", x.most(30), 1);
        x.give(1, 0);
        D.due("17: one DAY is left", x.most(30), 1);
        x = Desk.with("kind k 9 9;meets k k 3;soul a;soul b;debt b a 7;");
        D.due("17: no more than there is", x.most(9), 7);
        D.due("17: DAY by DAY", x.most(2), 6);
    }

    private static void hopelessDebts() {
        SoulOffice x = Desk.with(THREE);
        D.due("19: one debt", x.hopeless(-1), 1);
        D.due("19: d to a", x.hopeless(0), 20);
        D.due("19: hopeless(1)", x.hopeless(1), -1);
        D.due("19: hopeless(-2)", x.hopeless(-2), -1);
        x = Desk.with("kind k 1 1;kind l 1 1;meets k k 1;soul a;soul b;soul c;only c l;only b k;"
                + "debt c b 1;debt b c 1;debt a b 1;debt a c 1;");
        D.due("19: three debts", x.hopeless(-1), 3);
        D.due("19: rising", x.hopeless(0), 2);
        D.due("19: rising", x.hopeless(1), 12);
        D.due("19: rising", x.hopeless(2), 21);
        D.due("19: hopeless(3)", x.hopeless(3), -1);
        x = Desk.with("kind k 1 1;meets k k 0;soul a;soul b;debt b a 1;");
        D.due("19: meeting for nothing", x.hopeless(-1), 1);
        x = Desk.with("soul a;soul b;debt b a 1;");
        D.due("19: without KINDS", x.hopeless(0), 10);
    }

    private static void nets() {
        SoulOffice x = Desk.with(THREE);
        D.due("20: net(0)", x.net(0), -2);
        D.due("20: net(1)", x.net(1), 7);
        D.due("20: net(2)", x.net(2), -5);
        D.throwsNet(x, 3);
        D.throwsNet(x, -1);
        D.due("21: fewest()", x.fewest(), 2);
        D.due("22: groups()", x.groups(), 1);
        x = Desk.with("soul a;soul b;soul c;soul d;debt a b 5;debt b c 5;");
        D.due("21: through another one", x.fewest(), 1);
        D.due("22: one group", x.groups(), 1);
        x = Desk.with("soul a;soul b;soul c;debt a b 5;debt b c 5;debt c a 5;");
        D.due("21: round", x.fewest(), 0);
        D.due("22: none", x.groups(), 0);
        x = Desk.with("soul a;soul b;soul c;soul d;debt a b 5;debt c d 7;");
        D.due("21: two pairs", x.fewest(), 2);
        D.due("22: two groups", x.groups(), 2);
        // nets -3 -4 7, -5 6 -1, and 2 -2: three groups; 7 - 4 - 3 are no pairs
        x = Desk.with("soul a;soul b;soul c;soul d;soul e;soul f;soul g;soul h;"
                + "debt a e 3;debt b e 4;debt c f 5;debt d f 1;debt g h 2;");
        D.due("21: eight", x.fewest(), 5);
        D.due("22: three groups", x.groups(), 3);
        x = Desk.with("soul a;soul b;soul c;soul d;debt b a 3;debt d a 1;debt c d 2;");
        D.due("21: nets 4 -3 -2 1", x.fewest(), 3);
        D.due("22: one group", x.groups(), 1);
        x = Desk.with("soul a;soul b;soul c;soul d;debt b a 3;debt d a 1;debt c b 2;debt c d 2;");
        D.due("21: nets 4 -1 -4 1", x.fewest(), 2);
        D.due("22: two groups", x.groups(), 2);
        // nets 4 4 4 4 -8 -8: two groups, not one by a greedy pairing
        x = Desk.with("soul a;soul b;soul c;soul d;soul e;soul f;"
                + "debt e a 4;debt e b 4;debt f c 4;debt f d 4;");
        D.due("22: two groups", x.groups(), 2);
        D.due("21: four debts", x.fewest(), 4);
    }

    private static void whatTheyWere() {
        SoulOffice x = Desk.with(THREE);
        D.due("24: ahead of any", x.first(0), -1);
        D.due("23: 10 10", Desk.were(x, 0, 1, 10, 10), 1);
        D.due("24: c", x.first(0), 1);
        D.due("24: c", x.first(1), 1);
        D.due("24: together", x.first(2), 0);
        D.due("24: first(3)", x.first(3), -1);
        D.due("24: first(-1)", x.first(-1), -1);
        D.due("23: 10 10 10", Desk.were(x, 0, 1, 10, 10, 10), 0);
        D.due("24: the latest that was 1 or more", x.first(2), 0);
        D.due("23: 0 4 4", Desk.were(x, 0, 1, 0, 4, 4), 1);
        D.due("24: w", x.first(0), 0);
        D.due("24: c", x.first(1), 1);
        D.due("24: a DAY behind", x.first(2), 1);
        D.due("23: 4 4 0", Desk.were(x, 0, 1, 4, 4, 0), 2);
        D.due("24: w first", x.first(0), 0);
        D.due("24: then c", x.first(1), 1);
        D.due("24: together", x.first(2), 0);
        // c, w a DAY behind: 0 4, then c's life is over
        D.due("23: 0 4 0", Desk.were(x, 1, 0, 0, 4, 0), 1);
        D.due("24: c ahead", x.first(0), 1);
        // d is t alone: nothing is settled, 3 KINDS times 10
        D.due("23: nothing", Desk.were(x, 0, 2, 0), 30);
        D.due("24: the first way", x.first(0) * 100 + x.first(1) * 10 + x.first(2), 20);
        D.due("23: by the one who may be it", Desk.were(x, 2, 0, 0), 30);
        D.due("24: t ahead", x.first(0) * 100 + x.first(1) * 10 + x.first(2), 200);
        D.due("23: alike", Desk.were(x, 0, 0, 10), -1);
        D.due("23: the tape is empty", x.count(3), 0);
        D.due("23: no tape", x.were(0, 1), -1);
        D.due("23: no such SOUL", Desk.were(x, 0, 3, 10), -1);
        D.due("23: the tape is empty", x.count(3), 0);
        D.due("23: no such SOUL", Desk.were(x, -1, 0, 10), -1);
        D.due("23: thirty", Desk.were(x, 0, 2, new int[30]), 30);
        D.due("23: thirty-one", Desk.were(x, 0, 2, new int[31]), -1);
        D.due("23: the tape is empty", x.count(3), 0);
        // nine DAYS behind at most; debts are no matter
        x = Desk.with("kind k 60 1;meets k k 99;soul a;soul b;");
        D.due("23: nine DAYS behind", Desk.were(x, 1, 0, 0, 0, 0, 0, 0, 0, 0, 0, 0, 99, 99), 1);
        D.due("24: nine", x.first(2), 9);
        D.due("23: ten DAYS behind", Desk.were(x, 1, 0, 0, 0, 0, 0, 0, 0, 0, 0, 0, 0, 99), 0);
        D.due("23: a byte above 127", Desk.were(x, 1, 0, 227), 0);
        Desk.office(x, "soul a;");
        D.due("24: what was told last stays", x.first(2), 9);
    }

    private static void appeals() {
        SoulOffice x = Desk.with(THREE);
        D.due("25: not given out", x.appeal(0, 0), -1);
        x.give(0, 0);
        x.give(1, 1);
        D.due("25: it is that", x.appeal(0, 0), 0);
        D.due("25: a PLACE is left", x.appeal(0, 1), 1);
        D.due("25: another one goes", x.appeal(1, 0), 2);
        D.due("25: not given out", x.appeal(2, 2), -1);
        D.due("25: appeal(3, 0)", x.appeal(3, 0), -1);
        D.due("25: appeal(0, 3)", x.appeal(0, 3), -1);
        D.due("25: appeal(-1, 0)", x.appeal(-1, 0), -1);
        D.due("26: it is that", x.grant(0, 0), false);
        D.due("26: grant(0, 3)", x.grant(0, 3), false);
        D.due("26: not given out", x.grant(2, 2), false);
        x.days(1);
        D.due("25: not those of other DAYS", x.appeal(0, 1), -1);
        D.due("25: not even as it is", x.appeal(0, 0), -1);
        // who may not be that; who can't go on
        x = Desk.with("kind k 1 1;kind l 1 1;soul a;soul b;only b l;only a k l;");
        x.give(0, 0);
        x.give(1, 1);
        D.due("25: b may not be k", x.appeal(1, 0), -1);
        D.due("25: b can't go on", x.appeal(0, 1), -1);
        D.due("26: b can't go on", x.grant(0, 1), false);
        // who lives from another DAY takes no PLACE, and does not go on
        x = Desk.with("kind k 9 1;kind l 9 1;soul a;soul b;");
        x.give(0, 1);
        x.days(1);
        x.give(1, 0);
        D.due("25: the PLACE is free today", x.appeal(1, 1), 1);
        // a chain: a to l, b to m, c to k (which a leaves)
        x = Desk.with("kind k 1 1;kind l 2 1;kind m 3 1;soul a;soul b;soul c;only b l m;");
        x.give(0, 0);
        x.give(1, 1);
        x.give(2, 2);
        D.due("25: a chain of three", x.appeal(0, 1), 3);
        D.due("25: a change of two", x.appeal(0, 2), 2);
    }

    private static void grants() {
        SoulOffice x = Desk.with("kind k 1 1;kind l 2 1;kind m 3 1;soul a;soul b;soul c;only b l m;");
        x.give(0, 0);
        x.give(1, 1);
        x.give(2, 2);
        D.due("26: a chain of three", x.grant(0, 1), true);
        D.due("26: a is l", x.soul(0, 0), 1);
        D.due("26: b is m", x.soul(1, 0), 2);
        D.due("26: c is k", x.soul(2, 0), 0);
        D.due("26: a whole life", x.soul(0, 1), 2);
        D.due("26: a whole life", x.soul(1, 1), 3);
        D.due("26: no birth more", x.now(5), 3);
        D.due("26: births of a", x.soul(0, 2), 1);
        D.due("26: today yet", x.soul(0, 7), 1);
        D.due("6: PLACES left", x.kind(0, 2) + x.kind(1, 2) + x.kind(2, 2), 0);
        D.due("25: it is that now", x.appeal(0, 1), 0);
        D.due("16: undo()", x.undo(), 3);
        D.due("16: a is k", x.soul(0, 0), 0);
        // of like ways the first: b and c are both l, either can go; b goes on as k if c stays
        x = Desk.with("kind k 1 9;kind l 1 2;kind m 1 9;soul a;soul b;soul c;");
        x.give(0, 2);
        x.give(1, 1);
        x.give(2, 1);
        D.due("25: one goes", x.appeal(0, 1), 2);
        D.due("26: granted", x.grant(0, 1), true);
        D.due("26: b stays, ahead of all", x.soul(1, 0), 1);
        D.due("26: c goes on as the first KIND", x.soul(2, 0), 0);
        D.due("6: PLACES left of k", x.kind(0, 2), 8);
        D.due("6: PLACES left of l", x.kind(1, 2), 0);
        D.due("6: PLACES left of m", x.kind(2, 2), 9);
        x = Desk.with("kind k 1 1;kind l 1 1;kind m 1 1;soul a;soul b;");
        x.give(0, 0);
        x.give(1, 1);
        D.due("26: granted", x.grant(0, 1), true);
        D.due("26: b as the first KIND, which a leaves", x.soul(1, 0), 0);
        D.due("26: a PLACE alone", x.grant(0, 2), true);
        D.due("25: a PLACE alone", x.appeal(1, 1), 1);
    }

    private static void grantsAmongOthers() {
        // a and e live from another DAY: they stay as they are, and take no PLACES
        SoulOffice x = Desk.with("kind k 9 1;kind l 9 1;kind m 9 2;soul a;soul b;soul c;soul d;soul e;");
        x.give(0, 1);
        x.give(4, 2);
        x.days(1);
        x.give(1, 0);
        x.give(2, 1);
        x.give(3, 2);
        D.due("26: granted", x.grant(2, 0), true);
        D.due("26: a stays", x.soul(0, 0), 1);
        D.due("26: a's life goes on", x.soul(0, 1), 8);
        D.due("26: b goes on as l, which c leaves", x.soul(1, 0), 1);
        D.due("26: c is k", x.soul(2, 0), 0);
        D.due("26: d stays", x.soul(3, 0), 2);
        D.due("26: e stays", x.soul(4, 0), 2);
        D.due("26: e's life goes on", x.soul(4, 1), 8);
        D.due("16: undo()", x.undo(), 6);
        // b as k (the first KIND) would leave c nothing to go on to: b has to be m
        x = Desk.with("kind k 1 1;kind l 1 2;kind m 1 1;kind n 1 1;soul a;soul b;soul c;soul d;only c l k;only d n l;");
        x.give(0, 0);
        x.give(1, 1);
        x.give(2, 1);
        x.give(3, 3);
        D.due("25: d to l, one of l to k or m", x.appeal(3, 1), 2);
        D.due("26: granted", x.grant(3, 1), true);
        D.due("26: a stays", x.soul(0, 0), 0);
        D.due("26: b goes on, c can't: k has no PLACE", x.soul(1, 0), 2);
        D.due("26: c stays", x.soul(2, 0), 1);
        D.due("26: d is l", x.soul(3, 0), 1);
        // a changed alone is ahead of b and c changed, though a is the first of all
        x = Desk.with("kind k 1 1;kind l 1 2;kind m 1 1;kind n 1 2;soul a;soul b;soul c;soul d;"
                + "only a l m;only b l k;only c k n;");
        x.give(0, 1);
        x.give(1, 1);
        x.give(2, 0);
        x.give(3, 3);
        D.due("25: the fewest are two", x.appeal(3, 1), 2);
        D.due("26: granted", x.grant(3, 1), true);
        D.due("26: a goes on", x.soul(0, 0), 2);
        D.due("26: b stays", x.soul(1, 0), 1);
        D.due("26: c stays", x.soul(2, 0), 0);
        // a chain is no way here, a swap is
        x = Desk.with("kind k 1 1;kind l 1 1;kind m 1 1;kind n 1 1;soul a;soul b;soul c;soul d;"
                + "only a k m;only b l k m;only c m l k;");
        x.give(0, 0);
        x.give(1, 1);
        x.give(2, 2);
        x.give(3, 3);
        D.due("25: none of them may be n", x.appeal(3, 0), -1);
        D.due("26: none of them may be n", x.grant(3, 0), false);
        D.due("25: a swap would do for c", x.appeal(2, 0), 2);
        D.due("26: granted", x.grant(2, 0), true);
        D.due("26: a goes on as m", x.soul(0, 0), 2);
        D.due("26: b stays", x.soul(1, 0), 1);
    }
}
