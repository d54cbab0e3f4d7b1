/**
 * The boundary sentences of THE TEXT and of promises 2 to 5, one part for each;
 * a part's name begins with the promise, and the document's words follow.
 */
public final class TextBoundaryTest {
    private static final int NONE = -1;
    private static final Due due = new Due("TextBoundaryTest");

    public static void main(String[] args) {
        writeBounds();
        writeTwoHundred();
        erase();
        planBounds();
        addAndDelBounds();
        boundsFollowThePlan();
        fillBounds();
        digits();
        words();
        signs();
        blanks();
        endTooSoon();
        firstFault();
        clauses();
        faultChangesNothing();
        readRefused();
        readCounts();
        readForgets();
        readLeavesRows();
        planBeginsAnew();
        addByText();
        delByText();
        fillByText();
        order();
        earlierTexts();
        due.end();
    }

    private static Run run(String part) {
        return new Run(due, part);
    }

    /** The text has its fault at that place, and none of it is done; or it has none, and is read. */
    private static void fault(String part, String text, int place) {
        Run run = run(part + ": '" + text + "'").due("row(0, 1) = 1; add(77) = 1; keep(0) = 1").type(text);
        run.due("fault() = %d; fault() = %d; count(9) = %d", place, place, text.length());
        if (place == NONE) {
            due.holds("read() counts clauses", run.answer("read()") > 0);
            run.due("count(9) = 0; fault() = 0; count(8) = 0; back(0) = NOT");
        } else {
            run.due("read() = NOT; count(9) = %d; fault() = %d; COUNTS = 8 2 1 1 9 0 0 1 1; KEYS = 77", text.length(), place)
                .due("back(0) = 1; erase() = %d", text.length());
        }
    }

    private static void writeBounds() {
        run("promise 2: a letter is 0 .. 255").due("write(0) = 1; write(255) = 2; count(9) = 2");
        run("promise 2: OUTSIDE")
            .due("write(-1) = OUTSIDE; write(256) = OUTSIDE; write(MIN) = OUTSIDE; write(MAX) = OUTSIDE; write(353) = OUTSIDE")
            .due("count(9) = 0; erase() = 0");
        // 256 and 'a' as bytes would be letters.
        run("promise 2: a refused letter is no letter of THE TEXT").type("add 1").due("write(256) = OUTSIDE; write(305) = OUTSIDE")
            .due("fault() = NONE; read() = 1; KEYS = 1");
    }

    private static void writeTwoHundred() {
        Run run = run("promise 2: 200 letters at most; FULL");
        run.type(" ".repeat(194)).type("add 2").due("count(9) = 199; write(53) = 200; write(53) = FULL; write(0) = FULL; count(9) = 200");
        run.due("write(256) = OUTSIDE; write(-1) = OUTSIDE; fault() = NONE; read() = 1; KEYS = 25; count(9) = 0; write(97) = 1");
        run("promise 2: how many it has: from 1 on again behind erase() and read()")
            .type("del 1").due("erase() = 5; write(100) = 1; write(101) = 2").type("l 1").due("read() = 1; write(1) = 1");
        run("promise 4: the FAULT of a full text is told").type("x".repeat(200)).due("write(120) = FULL; fault() = 0; read() = NOT");
        run("promise 4: the end of a full text comes too soon").type(" ".repeat(197)).type("add").due("fault() = 200; read() = NOT");
        run("promise 4: a FAULT at the last letter").type(" ".repeat(194)).type("add 1;").due("fault() = 200; erase() = 200")
            .type(" ".repeat(194)).type("add 1,").due("fault() = 199");
    }

    private static void erase() {
        run("promise 3: THE TEXT is empty, how many letters it had: none").due("erase() = 0; erase() = 0; count(9) = 0; fault() = 0");
        run("promise 3: one").due("write(59) = 1; fault() = 0; erase() = 1; erase() = 0; count(9) = 0");
        run("promise 3: 200").type("a".repeat(200)).due("write(97) = FULL; erase() = 200; erase() = 0; count(9) = 0; write(97) = 1");
        run("promise 3: no letter is left for the next text").type("add 123;add 4").due("erase() = 13").type("add 5")
            .due("fault() = NONE; read() = 1; KEYS = 5");
        run("promise 3: nothing else changes").told("fill 0 1 9").due("add(50) = 10; keep(0) = 10; row(1, 2) = 2; work(1, 0, 0, 3) = 1")
            .type("del 0").due("erase() = 5; COUNTS = 8 2 10 2 17 1 0 2 1 0; asked() = 3; undo() = 0; back(0) = 10");
    }

    private static void planBounds() {
        String bits = "promise 4: plan, BITS B, 4 to 16";
        fault(bits, "plan 4 2", NONE);
        fault(bits, "plan 3 2", 5);
        fault(bits, "plan 0 2", 5);
        fault(bits, "plan 16 2", NONE);
        fault(bits, "plan 17 2", 5);
        fault(bits, "plan 99999 2", 5);
        String size = "promise 4: plan, SIZE S, 2 to 5";
        fault(size, "plan 8 2", NONE);
        fault(size, "plan 8 1", 7);
        fault(size, "plan 8 0", 7);
        fault(size, "plan 8 5", NONE);
        fault(size, "plan 8 6", 7);
        fault(size, "plan 8 16", 7);
        fault("promise 4: of two out of bounds the first", "plan 3 6", 5);
    }

    private static void addAndDelBounds() {
        String part = "promise 4: KEY K, 0 to TOP";
        fault(part, "add 0", NONE);
        fault(part, "add 255", NONE);
        fault(part, "add 256", 4);
        fault(part, "add 65535", 4);
        fault(part, "add 99999", 4);
        fault(part, "add -1", 4);
        fault(part, "del 0", NONE);
        fault(part, "del 255", NONE);
        fault(part, "del 256", 4);
        fault(part, "del -1", 4);
        for (int b = 4; b <= 16; b++) {
            int top = (1 << b) - 1;
            run("promise 4: TOP of the BITS there are now: " + b).told("plan " + b + " 2").type("add " + top)
                .due("fault() = NONE; erase() = %d",
                    4 + ("" + top).length()).type("del " + (top + 1)).due("fault() = 4; erase() = %d", 4 + ("" + (top + 1)).length())
                .type("fill " + top + " 1 1").due("fault() = NONE; erase() = %d", 9 + ("" + top).length())
                .type("fill " + (top + 1) + " 1 1").due("fault() = 5; read() = NOT");
        }
    }

    private static void boundsFollowThePlan() {
        String part = "promise 4: TOP of the plan ahead of it";
        fault(part, "plan 16 2;add 65535", NONE);
        fault(part, "plan 16 2;add 65536", 14);
        fault(part, "plan 4 2;add 15", NONE);
        fault(part, "plan 4 2;add 16", 13);
        fault(part, "plan 4 2;del 16", 13);
        fault(part, "plan 4 2;fill 16 1 1", 14);
        fault(part, "plan 4 2;fill 15 999 96", NONE);
        fault(part, "plan 16 2;plan 4 2;add 16", 23);
        fault(part, "plan 4 2;plan 16 2;add 16", NONE);
        fault("promise 4: TOP as it is now, ahead of the plan", "add 256;plan 16 2", 4);
        fault("promise 4: TOP as it is now, ahead of the plan", "add 255;plan 4 2", NONE);
        run("promise 4: a plan that was not read is none").type("plan 9 2;add 512").due("fault() = 13; read() = NOT; erase() = 16")
            .type("add 256").due("fault() = 4; count(0) = 8");
        run("promise 4: a plan that was only looked at is none").type("plan 9 2").due("fault() = NONE; erase() = 8")
            .type("add 256").due("fault() = 4; add(256) = OUTSIDE");
    }

    private static void fillBounds() {
        String a = "promise 4: fill, A 0 to TOP";
        fault(a, "fill 0 1 1", NONE);
        fault(a, "fill 255 1 1", NONE);
        fault(a, "fill 256 1 1", 5);
        String d = "promise 4: fill, D 1 to 999";
        fault(d, "fill 0 0 1", 7);
        fault(d, "fill 0 1 96", NONE);
        fault(d, "fill 0 999 1", NONE);
        fault(d, "fill 0 1000 1", 7);
        String n = "promise 4: fill, N 1 to 96";
        fault(n, "fill 0 1 0", 9);
        fault(n, "fill 0 9 1", NONE);
        fault(n, "fill 0 9 96", NONE);
        fault(n, "fill 0 9 97", 9);
        fault(n, "fill 0 9 999", 9);
        fault("promise 4: of three out of bounds the first", "fill 256 0 0", 5);
        fault("promise 4: of two out of bounds the first", "fill 0 0 0", 7);
    }

    private static void digits() {
        String part = "promise 4: numbers of 1 to 5 digits";
        fault(part, "add 7", NONE);
        fault(part, "add 00007", NONE);
        fault(part, "add 000007", 4);
        fault(part, "add 00000", NONE);
        fault(part, "add 000000", 4);
        fault(part, "plan 00008 00002", NONE);
        fault(part, "plan 000008 2", 5);
        fault(part, "plan 8 000002", 7);
        fault(part, "fill 00001 00001 00001", NONE);
        fault(part, "fill 000001 1 1", 5);
        fault(part, "fill 1 000001 1", 7);
        fault(part, "fill 1 1 000001", 9);
        fault(part, "add 4294967297", 4);
        fault(part, "add 18446744073709551617", 4);
        fault(part, "plan 16 2;add 65535", NONE);
        fault(part, "plan 16 2;add 065535", 14);
    }

    private static void words() {
        String part = "promise 4: a row of small letters that cannot stand there";
        fault(part, "a 1", 0);
        fault(part, "ad 1", 0);
        fault(part, "addd 1", 0);
        fault(part, "adding 1", 0);
        fault(part, "dell 1", 0);
        fault(part, "de 1", 0);
        fault(part, "pla 8 2", 0);
        fault(part, "plans 8 2", 0);
        fault(part, "fil 0 1 1", 0);
        fault(part, "filla 0 1 1", 0);
        fault(part, "adddel 1", 0);
        fault(part, "add del 1", 4);
        fault(part, "add one", 4);
        fault(part, "plan 8 two", 7);
        fault(part, "add 1 del 2", 6);
        fault(part, "add 1del 2", 5);
        fault(part, "add 1;1", 6);
        fault(part, "add 1;put 2", 6);
        String number = "promise 4: a row of digits that cannot stand there";
        fault(number, "1", 0);
        fault(number, "1 add", 0);
        fault(number, "add 1 1", 6);
        fault(number, "plan 8 2 2", 9);
        fault(number, "fill 0 1 1 1", 11);
        String whole = "promise 4: a word is told by all its letters, a to z";
        fault(whole, "odd 1", 0);
        fault(whole, "aad 1", 0);
        fault(whole, "adz 1", 0);
        fault(whole, "addz 1", 0);
        fault(whole, "adda 1", 0);
        fault(whole, "bel 1", 0);
        fault(whole, "clan 8 2", 0);
        fault(whole, "till 0 1 1", 0);
        fault(whole, "zadd 1", 0);
    }

    private static void signs() {
        String part = "promise 4: any other letter that cannot stand there";
        fault(part, "Add 1", 0);
        fault(part, "aDd 1", 0);
        fault(part, "adD 1", 0);
        fault(part, "add 1.", 5);
        fault(part, "add 1.5", 5);
        fault(part, "add +1", 4);
        fault(part, "add\t1", 3);
        fault(part, "add 1\n", 5);
        fault(part, "add 1,add 2", 5);
        fault(part, "add 1:add 2", 5);
        // The neighbours of a, z, 0 and 9.
        fault(part, "`", 0);
        fault(part, "add`1", 3);
        fault(part, "{", 0);
        fault(part, "add{1", 3);
        fault(part, "add /", 4);
        fault(part, "add 1/", 5);
        fault(part, "add :", 4);
        fault(part, "add 1!", 5);
        fault(part, "add" + (char) 31 + "1", 3);
        fault(part, (char) 0 + "add 1", 0);
        fault(part, "add 1" + (char) 255, 5);
        fault(part, "add" + (char) 160 + "1", 3);
        fault(part, "add " + (char) 178, 4);
        fault(part, "add 1" + (char) 181, 5);
        String semicolon = "promise 4: ; stands between CLAUSES alone";
        fault(semicolon, ";", 0);
        fault(semicolon, ";add 1", 0);
        fault(semicolon, "add;1", 3);
        fault(semicolon, "add ;", 4);
        fault(semicolon, "plan 8;2", 6);
        fault(semicolon, "add 1;;add 2", 6);
        fault(semicolon, "add 1 ; ; add 2", 8);
        fault(semicolon, "add 1;del 2", NONE);
        fault(semicolon, "add 1 del 2", 6);
    }

    private static void blanks() {
        String part = "promise 4: blanks between";
        fault(part, "  add   1  ;  del  2  ", NONE);
        fault(part, "plan  8    2", NONE);
        fault(part, "   ad 1", 3);
        fault(part, "add    256", 7);
        fault(part, "add 1   ,", 8);
        fault(part, "ad d 1", 0);
        fault(part, "add 1 2", 6);
        fault(part, "fill 0 1 9 6", 11);
    }

    private static void endTooSoon() {
        String part = "promise 4: at the end, if it comes too soon (the length)";
        fault(part, "", 0);
        fault(part, " ", 1);
        fault(part, "     ", 5);
        fault(part, "add", 3);
        fault(part, "add ", 4);
        fault(part, "add   ", 6);
        fault(part, "del", 3);
        fault(part, "plan", 4);
        fault(part, "plan 8", 6);
        fault(part, "plan 8 ", 7);
        fault(part, "fill", 4);
        fault(part, "fill 0", 6);
        fault(part, "fill 0 1", 8);
        fault(part, "fill 0 1  ", 10);
        fault(part, "add 1;", 6);
        fault(part, "add 1;  ", 8);
        fault(part, "add 1;del", 9);
        fault("promise 4: a word that is none is ahead of the end", "fil", 0);
        fault("promise 4: a number out of its bounds is ahead of the end", "plan 17", 5);
    }

    private static void firstFault() {
        String part = "promise 4: at the first TOKEN that cannot stand there";
        fault(part, "add 256;ad 1", 4);
        fault(part, "ad 256", 0);
        fault(part, "add 1;add 256;add 257", 10);
        fault(part, "add 1;plan 17 9;x", 11);
        fault(part, "plan 3 2;add 9999", 5);
    }

    private static void clauses() {
        String most = "add 1" + ";add 1".repeat(23);
        String part = "promise 4: 24 CLAUSES at most";
        fault(part, most, NONE);
        fault(part, most + "   ", NONE);
        fault(part, most + ";add 1", 143);
        fault(part, most + ";", 143);
        fault(part, most + " ; x", 144);
        fault(part, most + " 1", 144);
        fault(part, "add 1" + ";add 1".repeat(22) + ";add 256", 142);
        fault(part, "add 1" + ";add 1".repeat(22) + ";", 138);
        run("promise 5: 24 CLAUSES are done, the last too").type("add 1" + ";add 1".repeat(22) + ";add 200")
            .due("read() = 24; KEYS = 1 200");
        run("promise 5: of 25 none is done").type("add 1" + ";add 1".repeat(24)).due("read() = NOT; count(2) = 0; count(9) = 149");
    }

    private static void faultChangesNothing() {
        run("promise 4: fault() changes nothing").told("fill 0 1 9").due("add(99) = 10; keep(1) = 10; row(0, 2) = 2; work(0, 1, 1, 4) = 1")
            .type("plan 4 3;fill 0 1 9;del 3")
            .due("fault() = NONE; COUNTS = 8 2 10 2 17 1 0 2 1 25; asked() = -4; undo() = 0; back(1) = 10")
            .due("fault() = NONE; read() = 3; COUNTS = 4 3 8 1 5 0 0 2 0 0");
        run("promise 4: fault() does not count CLAUSES for read()").type("add 1;add 2").due("fault() = NONE; read() = 2");
    }

    private static void readRefused() {
        run("promise 5: NOT, it has a FAULT: no CLAUSE is done").type("add 5;fill 0 1 20;plan 9 3;del 512")
            .due("read() = NOT; COUNTS = 8 2 0 1 9 0 0 0 0 34; read() = NOT; fault() = 31; erase() = 34");
        run("promise 5: NOT, THE TEXT stays and can be ended").type("add").due("read() = NOT; count(9) = 3").type(" 12")
            .due("read() = 1; KEYS = 12; count(9) = 0");
        run("promise 5: NOT, what is kept and can be undone stays").due("add(1) = 1; keep(0) = 1; add(2) = 2; row(0, 1) = 1").type("plan 9")
            .due("read() = NOT; count(8) = 2; undo() = 1; KEYS = 1; back(0) = 1; count(7) = 1");
        run("promise 5: an empty text has a FAULT").due("read() = NOT; add(1) = 1; read() = NOT; count(8) = 1");
    }

    private static void readCounts() {
        run("promise 5: how many there were: one").type("add 9").due("read() = 1; count(9) = 0; read() = NOT; KEYS = 9");
        run("promise 5: those without effect count").type("add 9;add 9;del 8;fill 9 1 1").due("read() = 4; KEYS = 9");
        run("promise 5: and it is empty then").type("add 9;del 9").due("read() = 2; count(9) = 0; erase() = 0; fault() = 0; read() = NOT");
        run("promise 5: 24 CLAUSES in 200 letters").type("fill 0 1 9;" + "add 1;".repeat(22) + "del 1" + " ".repeat(51))
            .due("count(9) = 199; write(32) = 200; write(59) = FULL; fault() = NONE; read() = 24; KEYS = 0 2 3 4 5 6 7 8");
    }

    private static void readForgets() {
        run("promise 5: behind them nothing can be undone").due("add(1) = 1; add(2) = 2").told("add 3")
            .due("count(8) = 0; undo() = NOT; KEYS = 1 2 3; add(4) = 4; undo() = 0; KEYS = 1 2 3; undo() = NOT");
        run("promise 5: behind them nothing is kept").due("keep(0) = 0; add(1) = 1; keep(1) = 1").told("add 3")
            .due("back(0) = NOT; back(1) = NOT; KEYS = 1 3; keep(0) = 2; back(0) = 2; back(1) = NOT");
        run("promise 5: CLAUSES are not undone one by one").told("add 1;add 2;del 1").due("count(8) = 0; undo() = NOT; KEYS = 2");
        Run wrap = run("promise 5: the eight from before do not come back");
        for (int i = 0; i < 8; i++) {
            wrap.due("add(%d) = %d", i, i + 1);
        }
        wrap.told("del 0").due("undo() = NOT; add(100) = 8; count(8) = 1; undo() = 0; undo() = NOT; count(2) = 7");
    }

    private static void readLeavesRows() {
        run("promise 5: ROWS stay, behind a plan too").due("row(0, 0) = 0; row(1, 12) = 12; set(1, 11, 7) = 1; work(1, 0, 1, 3) = 1")
            .told("plan 16 5;fill 0 9 96").due("count(7) = 12; asked() = -3; drop(0) = 0; drop(2) = NULL; sum(1) = 12; asked() = 4");
    }

    private static void planBeginsAnew() {
        run("promise 5: plan, all else as at first").told("fill 0 1 9;del 0;del 1;del 2").due("COUNTS = 8 2 6 1 9 1 1").told("plan 7 4")
            .due("COUNTS = 7 4 0 1 8 0 0 0 0 0; MARKS = 127; SIZES = 0; has(5) = 0; ranked(0) = UNKNOWN");
        run("promise 5: plan, the same BITS and SIZE again").told("fill 0 1 20").told("plan 8 2")
            .due("COUNTS = 8 2 0 1 9 0 0 0 0 0; MARKS = 255");
        run("promise 5: of several plans the last").told("plan 16 5;plan 4 2;add 15").due("COUNTS = 4 2 1 1 5 0 0; MARKS = 15; KEYS = 15");
    }

    private static void addByText() {
        run("promise 5: add, if it is not there").told("add 4;add 4").due("KEYS = 4").told("add 4").due("KEYS = 4; SIZES = 1");
        run("promise 5: add, if there are fewer than 96: the 96th").told("fill 0 2 95;add 1").due("count(2) = 96; has(1) = 1");
        run("promise 5: add, if there are fewer than 96: the 97th").told("fill 0 2 96;add 1")
            .due("count(2) = 96; has(1) = 0; count(5) = 22");
        run("promise 5: add, 96 and it is there").told("fill 0 2 96;add 2").due("count(2) = 96; has(2) = 1");
        run("promise 5: add splits as add() does").told("fill 0 1 8").due("SIZES = 8").told("add 8")
            .due("SIZES = 4 5; MARKS = 3 255; count(5) = 1");
        run("promise 5: add, 0 and TOP").told("add 0;add 255").due("KEYS = 0 255");
    }

    private static void delByText() {
        run("promise 5: del, if it is there").told("del 4;add 4;del 3;del 5").due("KEYS = 4").told("del 4;del 4").due("count(2) = 0");
        run("promise 5: del joins as remove() does").told("fill 0 1 9;del 0;del 1").due("SIZES = 2 5").told("del 2")
            .due("SIZES = 6; MARKS = 255; count(6) = 1");
        run("promise 5: del of a MARK that is no KEY").told("fill 0 1 9;del 3;del 3").due("MARKS = 3 255; SIZES = 3 5");
        run("promise 5: del, 0 and TOP").told("add 0;add 255;add 7;del 0;del 255").due("KEYS = 7");
    }

    private static void fillByText() {
        run("promise 5: fill, N numbers: 1").told("fill 9 5 1").due("KEYS = 9");
        run("promise 5: fill, N numbers: 3").told("fill 9 5 3").due("KEYS = 9 14 19");
        run("promise 5: fill, N numbers: 96").told("fill 0 1 96").due("count(2) = 96; ranked(95) = 95");
        run("promise 5: fill, those that are not above TOP: TOP is").told("fill 251 2 96").due("KEYS = 251 253 255");
        run("promise 5: fill, those that are not above TOP: TOP and 1 is not").told("fill 252 2 96").due("KEYS = 252 254");
        run("promise 5: fill, A is TOP").told("fill 255 999 96").due("KEYS = 255");
        run("promise 5: fill, the farthest there is").told("plan 16 5;fill 65535 999 96").due("KEYS = 65535")
            .told("plan 16 5;fill 0 999 96")
            .due("count(2) = 66; ranked(65) = 64935");
        run("promise 5: fill, likewise: if it is not there").told("add 2;add 4;fill 0 1 6").due("KEYS = 0 1 2 3 4 5");
        run("promise 5: fill, likewise: if there are fewer than 96").told("fill 100 1 90;fill 0 1 50")
            .due("count(2) = 96; has(5) = 1; has(6) = 0; has(49) = 0");
        run("promise 5: fill, those that are there take no place").told("fill 100 1 94;fill 98 1 20")
            .due("count(2) = 96; has(98) = 1; has(99) = 1").told("del 98;fill 97 1 96").due("count(2) = 96; has(97) = 1; has(98) = 0");
    }

    private static void order() {
        run("promise 5: CLAUSES are done in their order").told("add 1;del 1;add 2").due("KEYS = 2").told("del 2;add 2").due("KEYS = 2");
        run("promise 5: in their order, at 96").told("fill 0 2 96;add 1;del 0;add 3;add 5")
            .due("count(2) = 96; has(1) = 0; has(3) = 1; has(5) = 0");
        run("promise 5: in their order, keys ahead of a plan are gone").told("add 1;plan 8 2;add 2").due("KEYS = 2");
        run("promise 5: fill puts in the first one first").told("fill 0 1 9;fill 100 1 5").due("MARKS = 3 7 255; SIZES = 4 4 6");
    }

    private static void earlierTexts() {
        run("promise 5: what earlier texts told stays, as it is now").told("plan 9 3;add 5;add 511").due("add(6) = 3; remove(5) = 2")
            .told("add 7")
            .due("KEYS = 6 7 511; COUNTS = 9 3 3 1 10");
        run("promise 5: as it is now: undone, gone back").told("add 5").due("keep(0) = 1; add(6) = 2; add(7) = 3; undo() = 1").told("add 8")
            .due("KEYS = 5 6 8; keep(1) = 3; add(9) = 4; back(1) = 3").told("add 10").due("KEYS = 5 6 8 10");
    }
}
