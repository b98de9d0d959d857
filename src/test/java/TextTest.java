/** The texts: OFFICES, DAYBOOKS and SENTENCES with each FAULT at its place (promises 2 to 5, 33, 35). */
public final class TextTest {
    private static final Desk D = new Desk();
    private static final String SIX_KINDS = "kind a 1 1;kind b 1 1;kind c 1 1;kind d 1 1;kind e 1 1;kind f 1 1;";
    private static final String EIGHT_SOULS = "soul s;soul t;soul u;soul v;soul w;soul x;soul y;soul z;";
    private static final String SMALL = "kind k 2 2;kind l 1 1;soul s;soul t;";

    public static void main(String[] args) {
        tape();
        officesAsTold();
        officeTokens();
        officeNames();
        officeLaws();
        officeLength();
        officeStays();
        books();
        bookLength();
        sentences();
        sentenceLimits();
        faults();
        D.close("TextTest");
    }

    private static void tape() {
        SoulOffice x = new SoulOffice();
        for (int i = 1; i <= 47; i++) {
            D.due("feed " + i, x.feed(0, -1, 2, 3, 4), 20 * i);
        }
        D.due("feed beyond 940", x.feed(0, 0, 0, 0, 0), -1);
        D.due("count(3) then", x.count(3), 940);
        D.due("end(941)", x.end(941), false);
        D.due("end(-1)", x.end(-1), false);
        D.due("end(940)", x.end(940), true);
        D.due("end(921)", x.end(921), true);
        D.due("feed at 921", x.feed(0, 0, 0, 0, 0), -1);
        D.due("end(920)", x.end(920), true);
        D.due("feed at 920", x.feed(0, 0, 0, 0, 0), 940);
        D.due("end(0)", x.end(0), true);
        D.due("count(3) of none", x.count(3), 0);
        D.due("end(1) of none", x.end(1), false);
        // "grow" "s  7" ";\n" and bytes of each number, the highest first
        D.due("feed a text", x.feed(0x67726f77, 0x73202037, 0x3b0a0000, 0, 0), 20);
        D.due("end(10)", x.end(10), true);
        D.due("office()", x.office(), 1);
        D.due("grows", x.count(2), 7);
        D.due("the tape is empty", x.count(3), 0);
        x.feed(0xff000000, 0, 0, 0, 0);
        x.end(1);
        D.due("a byte 255", x.office(), -1);
        D.due("its fault", x.fault(), 1);
        D.due("the tape is empty with a FAULT, too", x.count(3), 0);
        x.feed(0x73000000, 0x6f756c20, 0, 0, 0);
        x.end(1);
        x.feed(0x6f756c20, 0x613b0000, 0, 0, 0);
        x.end(7);
        D.due("bytes come behind those that are left", x.office(), 1);
    }

    private static void good(String text, int lines) {
        SoulOffice x = new SoulOffice();
        D.due("office of '" + text.trim() + "'", Desk.office(x, text), lines);
        D.due("its fault", x.fault(), 0);
    }

    private static void bad(String text, int place, int fault) {
        SoulOffice x = new SoulOffice();
        D.due("office of '" + text.trim() + "'", Desk.office(x, text), -1 - place);
        D.due("fault of '" + text.trim() + "'", x.fault(), fault);
        D.due("the tape then", x.count(3), 0);
    }

    private static void officesAsTold() {
        good("", 0);
        good(" \n \n", 0);
        good("kind a 60 9;", 1);
        good("kind a 060 009;", 1);
        good("\nkind\n\na 1 1  ;soul b;", 2);
        good("soul owlowly;kind kinds 1 1;", 2);
        good(SIX_KINDS + EIGHT_SOULS, 14);
        good(SIX_KINDS + EIGHT_SOULS + "only s a b c d e f;wish s a;debt s t 1;debt t s 999;grows 0;", 19);
        good(SIX_KINDS + "meets a a 0;meets a b 99;meets b b 1;", 9);
        good("soul s;kind k 1 1;only s k;soul t;kind l 1 1;only t l k;", 6);
    }

    private static void officeTokens() {
        bad("kind", 4, 1);
        bad("kind ", 5, 1);
        bad("k", 0, 1);
        bad("  grow 1;", 2, 1);
        bad("as;", 0, 1);
        bad("day 1;", 0, 1);
        bad("12;", 0, 1);
        bad(";", 0, 1);
        bad("(", 0, 1);
        bad("Kind a 1 1;", 0, 1);
        bad("kind\ta 1 1;", 4, 1);
        bad("kind A 1 1;", 5, 1);
        bad("kind a1 1 1;", 5, 1);
        bad("kind 1a 1 1;", 5, 1);
        bad("kind abcdefgh 1 1;", 5, 1);
        bad("kinda 1 1;", 0, 1);
        bad("kind a 1 1", 10, 1);
        bad("kind a 1 1 ", 11, 1);
        bad("kind a 1 1.", 10, 1);
        bad("kind a 1;", 8, 1);
        bad("kind a 1 1 1;", 11, 1);
        bad("kind a b 1;", 7, 1);
        bad("kind a 1 1;;", 11, 1);
        bad("kind a 1000 1;", 7, 1);
        bad("kind a 0001 1;", 7, 1);
        bad("kind a 2x 1;", 7, 1);
        bad("kind 5 1 1;", 5, 1);
        bad("kind a -1 1;", 7, 1);
        bad("soul;", 4, 1);
        bad("grows;", 5, 1);
        bad("grows a;", 6, 1);
        bad("kind a 1 1;soul s;only s;", 24, 1);
        bad("kind a 1 1;soul s;only s a 1;", 27, 1);
        bad("kind a 1 1;soul s;only s a", 26, 1);
        bad("kind a 1 1;soul s;wish s a a;", 27, 1);
        bad("kind a 1 1;meets a a;", 20, 1);
        bad("soul s;soul t;debt s t;", 22, 1);
        bad("kind a 1 1)", 10, 1);
        bad("kind a 1 1\0;", 10, 1);
        bad("kind a 1 1" + (char) 233 + ";", 10, 1);
    }

    private static void officeNames() {
        for (String key : ("kind meets soul only wish debt grows as day clerk or and not waits owes debts "
                + "dues births left place").split(" ")) {
            bad("kind " + key + " 1 1;", 5, 1);
            bad("soul " + key + ";", 5, 1);
            bad(SMALL + "wish " + key + " k;", 41, 1);
            bad(SMALL + "wish s " + key + ";", 43, 1);
        }
        bad("kind a 1 1;kind a 1 1;", 16, 3);
        bad("kind a 1 1;soul a;", 16, 3);
        bad("soul a;kind a 1 1;", 12, 3);
        bad("soul a;soul a;", 12, 3);
        bad("soul a;soul a 1;", 12, 3);
        bad("meets k k 1;kind k 1 1;", 6, 3);
        bad(SMALL + "meets k s 1;", 44, 3);
        bad(SMALL + "meets s k 1;", 42, 3);
        bad(SMALL + "meets k q 1;", 44, 3);
        bad(SMALL + "only k k;", 41, 3);
        bad(SMALL + "only s t;", 43, 3);
        bad(SMALL + "only s k l t;", 47, 3);
        bad(SMALL + "only s k q;", 45, 3);
        bad(SMALL + "wish k k;", 41, 3);
        bad(SMALL + "wish s s;", 43, 3);
        bad(SMALL + "debt s k 1;", 43, 3);
        bad(SMALL + "debt k s 1;", 41, 3);
        bad(SMALL + "debt s u 1;", 43, 3);
        bad(SMALL + "debt s s 1;", 43, 3);
        bad(SMALL + "debt s s 0;", 43, 3);
    }

    private static void officeLaws() {
        bad("kind a 0 1;", 7, 2);
        bad("kind a 61 1;", 7, 2);
        bad("kind a 1 0;", 9, 2);
        bad("kind a 1 10;", 9, 2);
        bad("grows 10;", 6, 2);
        bad("grows 1;grows 1;", 8, 3);
        bad("grows 0;grows 99;", 8, 3);
        bad(SMALL + "meets k l 100;", 46, 2);
        bad(SMALL + "debt s t 0;", 45, 2);
        bad(SMALL + "meets k l 1;meets k l 2;", 56, 3);
        bad(SMALL + "meets k l 1;meets l k 1;", 56, 3);
        bad(SMALL + "meets k k 0;meets k k 0;", 56, 3);
        good(SMALL + "meets k k 0;meets l k 0;meets l l 3;", 7);
        bad(SMALL + "debt s t 1;debt s t 1;", 54, 3);
        good(SMALL + "debt s t 1;debt t s 1;", 6);
        bad(SMALL + "only s k k;", 45, 3);
        bad(SMALL + "only s k;only s l;", 50, 3);
        bad(SMALL + "wish s k;wish s k;", 50, 3);
        good(SMALL + "wish s k;wish t k;only s l;only t l k;", 8);
        bad(SIX_KINDS + "kind g 1 1;", 66, 4);
        bad(SIX_KINDS + "kind", 66, 4);
        bad(EIGHT_SOULS + " soul q;", 57, 4);
    }

    private static void officeLength() {
        good("soul a;" + Desk.blanks(893), 1);
        bad("soul a;" + Desk.blanks(894), 900, 1);
        good(Desk.blanks(893) + "soul a;", 1);
        good(Desk.blanks(892) + "soul a ;", 1);
        bad(Desk.blanks(940), 900, 1);
        bad("x" + Desk.blanks(939), 0, 1);
        // a TOKEN that begins ahead of 900 is read whole
        bad(Desk.blanks(893) + "grows 9 ;", 900, 1);
        bad(Desk.blanks(893) + "grows 99;", 899, 2);
        bad(Desk.blanks(893) + "grows 9999;", 899, 1);
        bad(Desk.blanks(894) + "grows 99;", 900, 1);
        bad("soul a;" + Desk.blanks(887) + "soul aa;", 900, 1);
        bad("soul a;" + Desk.blanks(887) + "soul a;", 899, 3);
        bad("soul a;" + Desk.blanks(887) + "soul aaaaaaaa", 899, 1);
        bad("soul a;soul aa", 14, 1);
    }

    private static void officeStays() {
        SoulOffice x = Desk.with(SMALL + "grows 3;debt s t 5;");
        x.give(0, 0);
        D.due("a FAULT", Desk.office(x, "grows 1;kind"), -13);
        D.due("grows stays", x.count(2), 3);
        D.due("kinds stay", x.count(0), 2);
        D.due("souls stay", x.count(1), 2);
        D.due("who lives stays", x.soul(0, 0), 0);
        D.due("debts stay", x.debt(0, 1), 5);
        D.due("undo() stays", x.undo(), 0);
        D.due("another OFFICE", Desk.office(x, "soul z;"), 1);
        D.due("no kinds then", x.count(0), 0);
        D.due("one soul then", x.count(1), 1);
        D.due("grows 0 without", x.count(2), 0);
    }

    private static void book(String text, int answer, int fault) {
        SoulOffice x = Desk.with(SMALL);
        D.due("daybook of '" + text.trim() + "'", Desk.book(x, 0, text), answer);
        D.due("fault of '" + text.trim() + "'", x.fault(), fault);
        D.due("the tape then", x.count(3), 0);
    }

    private static void books() {
        book("", -1, 0);
        book("s as k;t as k;day 1;clerk 60;", -1, 0);
        book("s", -3, 1);
        book("s as k", -8, 1);
        book("s;", -3, 1);
        book("s as;", -6, 1);
        book("day;", -5, 1);
        book("s k;", -4, 1);
        book("s day k;", -4, 1);
        book("as k;", -2, 1);
        book("kind k;", -2, 1);
        book("5;", -2, 1);
        book("k as k;", -2, 3);
        book("q as k;", -2, 3);
        book("s as s;", -7, 3);
        book("s as q;", -7, 3);
        book("s as day;", -7, 1);
        book("s as 1;", -7, 1);
        book("day 0;", -6, 2);
        book("day 61;", -6, 2);
        book("clerk 61;", -8, 2);
        book("clerk 0;", -8, 2);
        book("day 060;", -1, 0);
        book("day k;", -6, 1);
        book("day 1 1;", -8, 1);
        book(" day 1;.", -9, 1);
        SoulOffice x = Desk.with(SMALL);
        D.due("a FAULT", Desk.book(x, 0, "day 0;"), -6);
        Desk.text(x, "day 1;");
        D.due("lives 2", x.daybook(2), -1000);
        D.due("lives -1", x.daybook(-1), -1000);
        D.due("the tape stays", x.count(3), 6);
        D.due("the fault stays", x.fault(), 2);
        D.due("nothing was booked", x.booked(0), -1);
        D.due("a FAULT ahead of WRONG", Desk.book(x, 1, "s as l;s as l;day"), -2 - 17);
        D.due("nothing was lived", x.now(5), 0);
    }

    private static void bookLength() {
        String thirty = "day 1;".repeat(30);
        book(thirty, -1, 0);
        book(thirty + "day 1;", -2 - 180, 4);
        book(thirty + " clerk", -2 - 181, 4);
        book(thirty + "s", -2 - 180, 4);
        book(thirty + "k", -2 - 180, 3);
        book(thirty + "q", -2 - 180, 3);
        book(thirty + "as", -2 - 180, 1);
        book(thirty + "1", -2 - 180, 1);
        book("day 1;" + Desk.blanks(394), -1, 0);
        book("day 1;" + Desk.blanks(395), -2 - 400, 1);
        book(Desk.blanks(395) + "day 1;", -2 - 400, 1);
        book(Desk.blanks(395) + "day 99;", -2 - 399, 2);
        book(Desk.blanks(396) + "day 99;", -2 - 400, 1);
    }

    private static void sentence(String text, int answer, int fault) {
        SoulOffice x = Desk.with(SMALL);
        D.due("sentence '" + text.trim() + "'", Desk.sentence(x, text), answer);
        D.due("fault of '" + text.trim() + "'", x.fault(), fault);
        D.due("the tape then", x.count(3), 0);
    }

    private static void sentences() {
        sentence("waits", 1, 0);
        sentence("not waits", 2, 0);
        sentence("(waits)", 2, 0);
        sentence("not(not(as k or owes t)and debts<0)", 7, 0);
        sentence("debts=1 and dues > 22 or births<333 and left = 4 or place>05", 5, 0);
        sentence("", -1, 1);
        sentence(" ", -2, 1);
        sentence("q", -1, 1);
        sentence("s", -1, 1);
        sentence("kind", -1, 1);
        sentence("day", -1, 1);
        sentence("clerk", -1, 1);
        sentence("or", -1, 1);
        sentence("and waits", -1, 1);
        sentence("1", -1, 1);
        sentence(")", -1, 1);
        sentence("()", -2, 1);
        sentence("not", -4, 1);
        sentence("not or", -5, 1);
        sentence("waits waits", -7, 1);
        sentence("waits or", -9, 1);
        sentence("waits and or", -11, 1);
        sentence("waits;", -6, 1);
        sentence("waits)", -6, 1);
        sentence("(waits", -7, 1);
        sentence("as", -3, 1);
        sentence("as waits", -4, 1);
        sentence("as s", -4, 3);
        sentence("as q", -4, 3);
        sentence("owes", -5, 1);
        sentence("owes k", -6, 3);
        sentence("owes q", -6, 3);
        sentence("owes 1", -6, 1);
        sentence("debts 1", -7, 1);
        sentence("debts ;1", -7, 1);
        sentence("debts <", -8, 1);
        sentence("debts <k", -8, 1);
        sentence("debts <<1", -8, 1);
        sentence("debts < 1000", -9, 1);
        sentence("debts < 999", 1, 0);
        sentence("place = 000", 1, 0);
        SoulOffice none = new SoulOffice();
        D.due("no kinds to be", Desk.sentence(none, "as k"), -4);
        D.due("its fault", none.fault(), 3);
    }

    private static void sentenceLimits() {
        String twenty = "waits" + " or waits".repeat(19);
        sentence(twenty, 20, 0);
        sentence(twenty + " or waits", -1 - 180, 4);
        sentence(twenty + " or q", -1 - 180, 1);
        sentence(twenty + " or (", -1 - 180, 4);
        sentence("waits" + " or waits".repeat(17) + " and not waits", 20, 0);
        sentence("waits" + " or waits".repeat(18) + " and not waits", -1 - 176, 4);
        sentence("not ".repeat(7) + "waits", 8, 0);
        sentence("not ".repeat(8) + "waits", -1 - 32, 4);
        sentence("not ".repeat(8) + "q", -1 - 32, 1);
        sentence("(".repeat(7) + "waits" + ")".repeat(7), 8, 0);
        sentence("(".repeat(8) + "waits" + ")".repeat(8), -1 - 8, 4);
        sentence("(".repeat(9) + "waits", -1 - 8, 4);
        sentence("(waits or ".repeat(7) + "waits" + ")".repeat(7), 15, 0);
        sentence("waits" + Desk.blanks(195), 1, 0);
        sentence("waits" + Desk.blanks(196), -1 - 200, 1);
        sentence(Desk.blanks(196) + "waits", -1 - 200, 1);
        sentence(Desk.blanks(195) + "waits", 1, 0);
        sentence(Desk.blanks(194) + "left<9999", -1 - 199, 1);
        sentence(Desk.blanks(195) + "left<9999", -1 - 200, 1);
        sentence(Desk.blanks(194) + "left<999", -1 - 200, 1);
    }

    private static void faults() {
        SoulOffice x = new SoulOffice();
        D.due("fault() ahead of any", x.fault(), 0);
        Desk.office(x, "grows 10;");
        D.due("fault() of an office", x.fault(), 2);
        Desk.sentence(x, "as q");
        D.due("fault() of a sentence", x.fault(), 3);
        Desk.were(x, 0, 1, 1);
        D.due("fault() stays with were()", x.fault(), 3);
        Desk.book(x, 0, "day 1");
        D.due("fault() of a daybook", x.fault(), 1);
        Desk.book(x, 0, "day 1;");
        D.due("fault() of none", x.fault(), 0);
        Desk.office(x, "grows 10;");
        x.image(0);
        x.restore(0);
        D.due("fault() stays with restore()", x.fault(), 2);
        Desk.office(x, "");
        D.due("fault() of an empty office", x.fault(), 0);
    }
}
