/** One part for each promise of the document, with answers worked out by hand. */
public final class PromiseTest {
    private static final int NONE = -1, UNKNOWN = -2, OUTSIDE = -3, NOT = -4, FULL = -5;
    private static final int NULL = -11, INDEX = -12, SIZE = -13, OVER = -14;
    private static final int MIN = Integer.MIN_VALUE, MAX = Integer.MAX_VALUE;
    private static final Due due = new Due("PromiseTest");

    public static void main(String[] args) {
        promise1();
        promise2();
        promise3();
        promise4Words();
        promise4Numbers();
        promise4Signs();
        promise4Most();
        promise5();
        promise5Clauses();
        promise6();
        promise6Split();
        promise7();
        promise7Join();
        promise7JoinAndSplit();
        promise8();
        promise9And10();
        promise11();
        promise12();
        promise13();
        promise14();
        promise15();
        promise15Probes();
        promise16();
        promise17();
        promise18();
        promise19();
        promise20();
        promise21();
        promise22();
        promise23();
        promise24();
        promise25();
        promise26();
        promise27();
        promise27Over();
        promise28();
        promise29();
        promise30();
        promise31();
        promise32();
        promise33();
        due.end();
    }

    private static PrefixIndex fresh(String name) {
        due.part(name);
        return new PrefixIndex();
    }

    private static void type(PrefixIndex x, String text) {
        for (int i = 0; i < text.length(); i++) {
            x.write(text.charAt(i));
        }
    }

    private static int told(PrefixIndex x, String text) {
        x.erase();
        type(x, text);
        return x.read();
    }

    private static void faultIs(PrefixIndex x, String text, int want) {
        x.erase();
        type(x, text);
        due.is("fault() of '" + text + "'", x.fault(), want);
        due.is("fault() again of '" + text + "'", x.fault(), want);
        due.is("letters of '" + text + "'", x.count(9), text.length());
        if (want != NONE) {
            due.is("read() of '" + text + "'", x.read(), NOT);
            due.is("letters then of '" + text + "'", x.count(9), text.length());
        }
        x.erase();
    }

    private static void countsAre(PrefixIndex x, int... want) {
        for (int i = 0; i < want.length; i++) {
            due.is("count(" + i + ")", x.count(i), want[i]);
        }
    }

    private static void marksAre(PrefixIndex x, int... want) {
        due.is("buckets", x.count(3), want.length);
        for (int i = 0; i < want.length; i++) {
            due.is("bucket(" + i + ", 1)", x.bucket(i, 1), want[i]);
        }
    }

    private static void sizesAre(PrefixIndex x, int... want) {
        due.is("buckets", x.count(3), want.length);
        for (int i = 0; i < want.length; i++) {
            due.is("bucket(" + i + ", 0)", x.bucket(i, 0), want[i]);
        }
    }

    private static void keysAre(PrefixIndex x, int... want) {
        due.is("keys", x.count(2), want.length);
        for (int i = 0; i < want.length; i++) {
            due.is("ranked(" + i + ")", x.ranked(i), want[i]);
        }
    }

    private static void promise1() {
        PrefixIndex x = fresh("1 a new object");
        countsAre(x, 8, 2, 0, 1, 9, 0, 0, 0, 0, 0);
        marksAre(x, 255);
        due.is("undo()", x.undo(), NOT);
        due.is("back(0)", x.back(0), NOT);
        due.is("back(1)", x.back(1), NOT);
        for (int row = 0; row < 3; row++) {
            due.is("drop", x.drop(row), NULL);
        }
        due.is("asked()", x.asked(), 0);
        due.is("has(255)", x.has(255), 0);
        due.is("has(256)", x.has(256), OUTSIDE);
        PrefixIndex y = new PrefixIndex();
        y.add(7);
        due.is("another object's key", x.has(7), 0);
    }

    private static void promise2() {
        PrefixIndex x = fresh("2 write");
        due.is("write(0)", x.write(0), 1);
        due.is("write(255)", x.write(255), 2);
        due.is("write(256)", x.write(256), OUTSIDE);
        due.is("write(-1)", x.write(-1), OUTSIDE);
        due.is("write(MIN)", x.write(MIN), OUTSIDE);
        due.is("count(9)", x.count(9), 2);
        for (int i = 3; i <= 200; i++) {
            due.is("write", x.write('a'), i);
        }
        due.is("write at 200", x.write('a'), FULL);
        due.is("write(256) at 200", x.write(256), OUTSIDE);
        due.is("count(9)", x.count(9), 200);
    }

    private static void promise3() {
        PrefixIndex x = fresh("3 erase");
        due.is("erase()", x.erase(), 0);
        type(x, "add 5");
        due.is("erase()", x.erase(), 5);
        due.is("erase()", x.erase(), 0);
        due.is("count(9)", x.count(9), 0);
        due.is("write()", x.write('d'), 1);
        due.is("keys", x.count(2), 0);
        for (int i = 0; i < 300; i++) {
            x.write(' ');
        }
        due.is("erase()", x.erase(), 200);
    }

    private static void promise4Words() {
        PrefixIndex x = fresh("4 fault, words");
        faultIs(x, "", 0);
        faultIs(x, "   ", 3);
        faultIs(x, "add 1", NONE);
        faultIs(x, "del 1", NONE);
        faultIs(x, "plan 8 2", NONE);
        faultIs(x, "fill 0 1 1", NONE);
        faultIs(x, "put 1", 0);
        faultIs(x, "ad 1", 0);
        faultIs(x, "adds 1", 0);
        faultIs(x, "addz 1", 0);
        faultIs(x, "odd 1", 0);
        faultIs(x, "adb 1", 0);
        faultIs(x, "Add 1", 0);
        faultIs(x, "aDD 1", 0);
        faultIs(x, "7", 0);
        faultIs(x, "add add", 4);
        faultIs(x, "add", 3);
        faultIs(x, "add  ", 5);
        faultIs(x, "  add", 5);
        faultIs(x, "add 1 2", 6);
        faultIs(x, "add 1 x", 6);
        faultIs(x, "add 1del 2", 5);
        faultIs(x, "add1", NONE);
        faultIs(x, "  add   1  ;  del  2  ", NONE);
        faultIs(x, "fill 1 2", 8);
        faultIs(x, "fill 1 2 ", 9);
        faultIs(x, "plan 8", 6);
        faultIs(x, "plan 8 2 2", 9);
    }

    private static void promise4Numbers() {
        PrefixIndex x = fresh("4 fault, numbers");
        faultIs(x, "add 255", NONE);
        faultIs(x, "add 256", 4);
        faultIs(x, "del 255", NONE);
        faultIs(x, "del 256", 4);
        faultIs(x, "add 00255", NONE);
        faultIs(x, "add 000255", 4);
        faultIs(x, "add 99999999999999999999", 4);
        faultIs(x, "add 4294967296", 4);
        faultIs(x, "add -1", 4);
        faultIs(x, "add 1.", 5);
        faultIs(x, "add 1e5", 5);
        faultIs(x, "plan 3 2", 5);
        faultIs(x, "plan 4 2", NONE);
        faultIs(x, "plan 16 5", NONE);
        faultIs(x, "plan 17 5", 5);
        faultIs(x, "plan 16 6", 8);
        faultIs(x, "plan 16 1", 8);
        faultIs(x, "plan 17 9", 5);
        x = fresh("4 fault, numbers of fill and of plans ahead");
        faultIs(x, "fill 255 999 96", NONE);
        faultIs(x, "fill 256 999 96", 5);
        faultIs(x, "fill 0 1000 1", 7);
        faultIs(x, "fill 0 0 1", 7);
        faultIs(x, "fill 0 1 0", 9);
        faultIs(x, "fill 0 1 97", 9);
        faultIs(x, "fill 0 1 96", NONE);
        faultIs(x, "plan 9 2;add 511", NONE);
        faultIs(x, "plan 9 2;add 512", 13);
        faultIs(x, "plan 4 2;fill 16 1 1", 14);
        faultIs(x, "add 256;plan 9 2", 4);
        faultIs(x, "plan 16 2;plan 4 2;del 16", 23);
        due.is("count(0)", x.count(0), 8);
        told(x, "plan 5 3");
        faultIs(x, "add 31", NONE);
        faultIs(x, "add 32", 4);
    }

    private static void promise4Signs() {
        PrefixIndex x = fresh("4 fault, signs");
        faultIs(x, ";", 0);
        faultIs(x, "add 1;", 6);
        faultIs(x, "add 1; ", 7);
        faultIs(x, "add 1;;add 2", 6);
        faultIs(x, ";add 1", 0);
        faultIs(x, "add;1", 3);
        faultIs(x, "add 1,add 2", 5);
        faultIs(x, "add\t1", 3);
        faultIs(x, "add 1\n", 5);
        faultIs(x, "add " + (char) 0xb2, 4);
        faultIs(x, (char) 0 + "add 1", 0);
        faultIs(x, "add 1;put 2", 6);
        faultIs(x, "add`1", 3);
        faultIs(x, "add{1", 3);
        faultIs(x, "add /", 4);
        faultIs(x, "add :", 4);
    }

    private static void promise4Most() {
        String most = "add 1" + ";add 1".repeat(23);
        faultIs(fresh("4 fault, 24 clauses"), most, NONE);
        faultIs(fresh("4 fault, 24 clauses and blanks"), most + "  ", NONE);
        faultIs(fresh("4 fault, 25 clauses"), most + ";add 1", 143);
        faultIs(fresh("4 fault, 24 clauses and ;"), most + " ;", 144);
        faultIs(fresh("4 fault, 24 clauses and a word"), most + " add", 144);
        due.is("read() of 24", told(fresh("5 read, 24 clauses"), most), 24);
    }

    private static void promise5() {
        PrefixIndex x = fresh("5 read");
        type(x, "add 9;add 300");
        due.is("read()", x.read(), NOT);
        due.is("letters", x.count(9), 13);
        due.is("has(9)", x.has(9), 0);
        x.erase();
        due.is("read() of nothing", x.read(), NOT);
        x.row(1, 3);
        x.set(1, 0, 6);
        x.work(1, 0, 0, 1);
        x.add(1);
        x.keep(0);
        x.add(2);
        type(x, "add");
        due.is("read()", x.read(), NOT);
        due.is("count(8)", x.count(8), 2);
        due.is("undo()", x.undo(), 1);
        due.is("back(0)", x.back(0), 1);
        x.add(2);
        type(x, " 3");
        due.is("read()", x.read(), 1);
        due.is("letters", x.count(9), 0);
        due.is("undoable", x.count(8), 0);
        due.is("undo()", x.undo(), NOT);
        due.is("back(0)", x.back(0), NOT);
        due.is("back(1)", x.back(1), NOT);
        keysAre(x, 1, 2, 3);
        due.is("places", x.count(7), 3);
        due.is("bits of the row", x.bits(1, 0), 1);
        due.is("asked()", x.asked(), 3);
        x.keep(1);
        due.is("read() of plan", told(x, "plan 8 2"), 1);
        due.is("back(1)", x.back(1), NOT);
        due.is("places", x.count(7), 3);
        due.is("asked()", x.asked(), 3);
    }

    private static void promise5Clauses() {
        PrefixIndex x = fresh("5 read, clauses");
        due.is("read()", told(x, "fill 10 100 5;del 10;del 11;add 110;add 0"), 5);
        keysAre(x, 0, 110, 210);
        due.is("read()", told(x, "plan 5 3"), 1);
        countsAre(x, 5, 3, 0, 1, 6, 0, 0, 0, 0, 0);
        marksAre(x, 31);
        due.is("read()", told(x, "fill 0 1 13;del 3;add 31"), 3);
        countsAre(x, 5, 3, 13, 2, 11, 1, 0);
        due.is("read()", told(x, "add 30;add 30"), 2);
        countsAre(x, 5, 3, 14, 2);
        told(x, "plan 16 5;fill 0 1 96;add 1000;fill 2000 1 5;del 0;fill 0 3 2;add 5000");
        due.is("keys", x.count(2), 96);
        due.is("has(1000)", x.has(1000), 0);
        due.is("has(2000)", x.has(2000), 0);
        due.is("has(0)", x.has(0), 1);
        due.is("has(5000)", x.has(5000), 0);
        told(x, "plan 16 5;fill 65535 999 96");
        keysAre(x, 65535);
    }

    private static void promise6() {
        PrefixIndex x = fresh("6 add");
        due.is("add(-1)", x.add(-1), OUTSIDE);
        due.is("add(256)", x.add(256), OUTSIDE);
        due.is("add(MIN)", x.add(MIN), OUTSIDE);
        due.is("add(MAX)", x.add(MAX), OUTSIDE);
        due.is("count(8)", x.count(8), 0);
        due.is("add(255)", x.add(255), 1);
        due.is("add(0)", x.add(0), 2);
        due.is("add(0)", x.add(0), NOT);
        due.is("count(8)", x.count(8), 2);
        keysAre(x, 0, 255);
        told(x, "fill 0 2 96");
        due.is("keys", x.count(2), 96);
        due.is("add(0) when full", x.add(0), NOT);
        due.is("add(1) when full", x.add(1), FULL);
        due.is("add(256) when full", x.add(256), OUTSIDE);
        due.is("count(8)", x.count(8), 0);
        due.is("remove(0)", x.remove(0), 95);
        due.is("add(1)", x.add(1), 96);
        due.is("add(3)", x.add(3), FULL);
    }

    private static void promise6Split() {
        PrefixIndex x = fresh("6 add, split");
        told(x, "fill 10 10 8");
        marksAre(x, 255);
        due.is("add(5)", x.add(5), 9);
        marksAre(x, 30, 255);
        sizesAre(x, 4, 5);
        due.is("splits", x.count(5), 1);
        due.is("add(30)", x.add(30), NOT);
        for (int key = 6; key <= 9; key++) {
            x.add(key);
        }
        marksAre(x, 30, 255);
        sizesAre(x, 8, 5);
        due.is("add(11)", x.add(11), 14);
        marksAre(x, 8, 30, 255);
        sizesAre(x, 4, 5, 5);
        due.is("splits", x.count(5), 2);
        told(x, "plan 16 5;fill 1 1 20");
        marksAre(x, 65535);
        x.add(21);
        marksAre(x, 10, 65535);
        sizesAre(x, 10, 11);
    }

    private static void promise7() {
        PrefixIndex x = fresh("7 remove");
        due.is("remove(-1)", x.remove(-1), OUTSIDE);
        due.is("remove(256)", x.remove(256), OUTSIDE);
        due.is("remove(0)", x.remove(0), NOT);
        due.is("count(8)", x.count(8), 0);
        x.add(4);
        x.add(200);
        due.is("remove(4)", x.remove(4), 1);
        due.is("remove(4)", x.remove(4), NOT);
        due.is("count(8)", x.count(8), 3);
        due.is("remove(200)", x.remove(200), 0);
        marksAre(x, 255);
        due.is("joins", x.count(6), 0);
    }

    private static void promise7Join() {
        PrefixIndex x = fresh("7 remove, join");
        told(x, "fill 10 10 9");
        marksAre(x, 40, 255);
        x.remove(10);
        x.remove(40);
        sizesAre(x, 2, 5);
        marksAre(x, 40, 255);
        due.is("remove(20)", x.remove(20), 6);
        marksAre(x, 255);
        due.is("joins", x.count(6), 1);
        due.is("splits", x.count(5), 1);
        told(x, "plan 8 2;fill 10 10 9;del 50;del 60;del 70");
        sizesAre(x, 4, 2);
        due.is("remove of the last one's", x.remove(80), 5);
        marksAre(x, 255);
        due.is("joins", x.count(6), 1);
        told(x, "plan 8 2;fill 1 1 13;del 1;del 2");
        marksAre(x, 4, 8, 255);
        sizesAre(x, 2, 4, 5);
        x.remove(4);
        marksAre(x, 8, 255);
        sizesAre(x, 5, 5);
        due.is("joins", x.count(6), 1);
        due.is("splits", x.count(5), 2);
    }

    private static void promise7JoinAndSplit() {
        PrefixIndex x = fresh("7 remove, join and split");
        told(x, "fill 1 1 9;add 12;del 1;del 2");
        sizesAre(x, 2, 6);
        x.keep(0);
        x.remove(3);
        sizesAre(x, 3, 4);
        marksAre(x, 6, 255);
        due.is("joins", x.count(6), 1);
        due.is("splits", x.count(5), 2);
        x.back(0);
        x.remove(12);
        x.remove(3);
        sizesAre(x, 6);
        due.is("joins", x.count(6), 1);
        due.is("splits", x.count(5), 1);
        told(x, "plan 8 2;fill 1 1 9;fill 20 1 3;fill 60 1 4");
        marksAre(x, 4, 8, 255);
        told(x, "del 1;del 2;add 9");
        sizesAre(x, 2, 4, 8);
        told(x, "plan 8 2;fill 200 1 9;add 1;add 2;add 3;add 4;del 205;del 206;del 207");
        sizesAre(x, 8, 2);
        x.remove(208);
        marksAre(x, 4, 255);
        sizesAre(x, 4, 5);
        due.is("joins", x.count(6), 1);
        due.is("splits", x.count(5), 2);
    }

    private static void promise8() {
        PrefixIndex x = fresh("8 undo");
        due.is("undo()", x.undo(), NOT);
        for (int key = 1; key <= 9; key++) {
            x.add(key);
        }
        due.is("count(8)", x.count(8), 8);
        marksAre(x, 4, 255);
        due.is("splits", x.count(5), 1);
        due.is("undo()", x.undo(), 7);
        marksAre(x, 255);
        keysAre(x, 1, 2, 3, 4, 5, 6, 7, 8);
        due.is("splits", x.count(5), 0);
        due.is("remove(99)", x.remove(99), NOT);
        due.is("add(1)", x.add(1), NOT);
        due.is("count(8)", x.count(8), 7);
        x.remove(2);
        due.is("count(8)", x.count(8), 8);
        due.is("undo()", x.undo(), 7);
        keysAre(x, 1, 2, 3, 4, 5, 6, 7, 8);
        for (int left = 6; left >= 0; left--) {
            due.is("undo()", x.undo(), left);
            due.is("keys", x.count(2), left + 1);
        }
        due.is("undo()", x.undo(), NOT);
        keysAre(x, 1);
        told(x, "plan 8 2;fill 1 1 9;del 1;del 2");
        x.remove(4);
        marksAre(x, 255);
        due.is("joins", x.count(6), 1);
        due.is("undo()", x.undo(), 0);
        marksAre(x, 4, 255);
        sizesAre(x, 2, 5);
        due.is("joins", x.count(6), 0);
        due.is("splits", x.count(5), 1);
    }

    private static void promise9And10() {
        PrefixIndex x = fresh("9 keep, 10 back");
        due.is("keep(-1)", x.keep(-1), UNKNOWN);
        due.is("keep(2)", x.keep(2), UNKNOWN);
        due.is("back(-1)", x.back(-1), UNKNOWN);
        due.is("back(2)", x.back(2), UNKNOWN);
        due.is("back(0)", x.back(0), NOT);
        due.is("keep(0)", x.keep(0), 0);
        due.is("back(1)", x.back(1), NOT);
        told(x, "fill 1 1 8");
        due.is("back(0)", x.back(0), NOT);
        x.add(100);
        due.is("keep(1)", x.keep(1), 9);
        due.is("count(8)", x.count(8), 1);
        x.remove(1);
        x.remove(2);
        x.remove(3);
        due.is("keep(0)", x.keep(0), 6);
        marksAre(x, 255);
        due.is("joins", x.count(6), 1);
        due.is("back(1)", x.back(1), 9);
        marksAre(x, 4, 255);
        due.is("joins", x.count(6), 0);
        due.is("splits", x.count(5), 1);
        due.is("undo()", x.undo(), NOT);
        due.is("count(8)", x.count(8), 0);
        x.remove(100);
        due.is("back(0)", x.back(0), 6);
        keysAre(x, 4, 5, 6, 7, 8, 100);
        due.is("back(1)", x.back(1), 9);
        due.is("keep(1)", x.keep(1), 9);
        x.add(101);
        x.undo();
        due.is("back(1)", x.back(1), 9);
        x.add(9);
        due.is("keep(1)", x.keep(1), 10);
        x.add(10);
        due.is("back(1)", x.back(1), 10);
        due.is("back(1) again", x.back(1), 10);
        due.is("has(9)", x.has(9), 1);
        due.is("has(10)", x.has(10), 0);
    }

    private static void promise11() {
        PrefixIndex x = fresh("11 has");
        x.add(0);
        x.add(255);
        due.is("has(0)", x.has(0), 1);
        due.is("has(255)", x.has(255), 1);
        due.is("has(1)", x.has(1), 0);
        due.is("has(254)", x.has(254), 0);
        due.is("has(-1)", x.has(-1), OUTSIDE);
        due.is("has(256)", x.has(256), OUTSIDE);
        x.remove(0);
        due.is("has(0)", x.has(0), 0);
        due.is("has(MIN)", x.has(MIN), OUTSIDE);
        due.is("has(MAX)", x.has(MAX), OUTSIDE);
    }

    private static void promise12() {
        PrefixIndex x = fresh("12 near");
        due.is("near(0, 0)", x.near(0, 0), NONE);
        due.is("near(255, 1)", x.near(255, 1), NONE);
        told(x, "fill 10 10 9");
        marksAre(x, 40, 255);
        due.is("near(9, 0)", x.near(9, 0), NONE);
        due.is("near(10, 0)", x.near(10, 0), 10);
        due.is("near(45, 0)", x.near(45, 0), 40);
        due.is("near(255, 0)", x.near(255, 0), 90);
        due.is("near(0, 1)", x.near(0, 1), 10);
        due.is("near(41, 1)", x.near(41, 1), 50);
        due.is("near(50, 1)", x.near(50, 1), 50);
        due.is("near(90, 1)", x.near(90, 1), 90);
        due.is("near(91, 1)", x.near(91, 1), NONE);
        due.is("near(40, 2)", x.near(40, 2), OUTSIDE);
        due.is("near(40, -1)", x.near(40, -1), OUTSIDE);
        due.is("near(-1, 1)", x.near(-1, 1), OUTSIDE);
        due.is("near(256, 0)", x.near(256, 0), OUTSIDE);
        due.is("near(MAX, 0)", x.near(MAX, 0), OUTSIDE);
    }

    private static void promise13() {
        PrefixIndex x = fresh("13 rank");
        due.is("rank(255)", x.rank(255), 0);
        told(x, "fill 10 10 9");
        due.is("rank(0)", x.rank(0), 0);
        due.is("rank(10)", x.rank(10), 0);
        due.is("rank(11)", x.rank(11), 1);
        due.is("rank(40)", x.rank(40), 3);
        due.is("rank(41)", x.rank(41), 4);
        due.is("rank(90)", x.rank(90), 8);
        due.is("rank(255)", x.rank(255), 9);
        due.is("rank(256)", x.rank(256), OUTSIDE);
        due.is("rank(-1)", x.rank(-1), OUTSIDE);
    }

    private static void promise14() {
        PrefixIndex x = fresh("14 ranked");
        due.is("ranked(0)", x.ranked(0), UNKNOWN);
        told(x, "fill 10 10 9");
        keysAre(x, 10, 20, 30, 40, 50, 60, 70, 80, 90);
        due.is("ranked(9)", x.ranked(9), UNKNOWN);
        due.is("ranked(-1)", x.ranked(-1), UNKNOWN);
        due.is("ranked(MAX)", x.ranked(MAX), UNKNOWN);
        due.is("ranked(MIN)", x.ranked(MIN), UNKNOWN);
    }

    private static void searchIs(PrefixIndex x, int number, int... want) {
        for (int what = 0; what < want.length; what++) {
            due.is("search(" + number + ", " + what + ")", x.search(number, what), want[what]);
        }
    }

    private static void promise15() {
        PrefixIndex x = fresh("15 search");
        // Marks 00101000 and 11111111; keys 10 20 30 40, 50 60 70 80 90.
        told(x, "fill 10 10 9");
        searchIs(x, 40, 4, 0, 2, 8, 0);
        searchIs(x, 41, 4, 1, 3, 7, 1);
        searchIs(x, 10, 3, 0, 3, 2, 0);
        searchIs(x, 20, 3, 0, 3, 2, 0);
        searchIs(x, 30, 3, 0, 2, 2, 0);
        searchIs(x, 50, 3, 1, 3, 3, 1);
        searchIs(x, 90, 3, 1, 3, 1, 1);
        searchIs(x, 255, 4, 0, 2, 8, 1);
        searchIs(x, 128, 3, 0, 2, 1, 1);
        searchIs(x, 0, 3, 0, 3, 2, 0);
        due.is("search(40, 5)", x.search(40, 5), OUTSIDE);
        due.is("search(40, -1)", x.search(40, -1), OUTSIDE);
        due.is("search(-1, 0)", x.search(-1, 0), OUTSIDE);
        due.is("search(256, 0)", x.search(256, 0), OUTSIDE);
        due.is("count(8)", x.count(8), 0);
    }

    private static void promise15Probes() {
        PrefixIndex x = fresh("15 search, probes");
        // The one mark is all ones; a number with k ones ahead has LENGTH k.
        told(x, "plan 5 2");
        searchIs(x, 0, 2, 0, 0, 0, 0);
        searchIs(x, 16, 3, 0, 0, 1, 0);
        searchIs(x, 24, 3, 0, 0, 2, 0);
        searchIs(x, 28, 2, 0, 0, 3, 0);
        searchIs(x, 30, 3, 0, 0, 4, 0);
        searchIs(x, 31, 3, 0, 0, 5, 0);
        told(x, "plan 16 2");
        searchIs(x, 65535, 5, 0, 0, 16, 0);
        searchIs(x, 65534, 5, 0, 0, 15, 0);
        searchIs(x, 0, 4, 0, 0, 0, 0);
    }

    private static void promise16() {
        PrefixIndex x = fresh("16 bucket");
        due.is("bucket(0, 2)", x.bucket(0, 2), NONE);
        due.is("bucket(0, 3)", x.bucket(0, 3), NONE);
        due.is("bucket(0, 0)", x.bucket(0, 0), 0);
        x.add(7);
        due.is("bucket(0, 2)", x.bucket(0, 2), 7);
        due.is("bucket(0, 3)", x.bucket(0, 3), 7);
        told(x, "del 7;fill 10 10 9;del 40");
        due.is("bucket(0, 0)", x.bucket(0, 0), 3);
        due.is("bucket(0, 1)", x.bucket(0, 1), 40);
        due.is("bucket(0, 2)", x.bucket(0, 2), 10);
        due.is("bucket(0, 3)", x.bucket(0, 3), 30);
        due.is("bucket(1, 0)", x.bucket(1, 0), 5);
        due.is("bucket(1, 1)", x.bucket(1, 1), 255);
        due.is("bucket(1, 2)", x.bucket(1, 2), 50);
        due.is("bucket(1, 3)", x.bucket(1, 3), 90);
        due.is("bucket(2, 0)", x.bucket(2, 0), UNKNOWN);
        due.is("bucket(-1, 0)", x.bucket(-1, 0), UNKNOWN);
        due.is("bucket(2, 9)", x.bucket(2, 9), UNKNOWN);
        due.is("bucket(1, 4)", x.bucket(1, 4), OUTSIDE);
        due.is("bucket(1, -1)", x.bucket(1, -1), OUTSIDE);
    }

    private static void promise17() {
        PrefixIndex x = fresh("17 level");
        // Marks 00000100, 00001000 and 11111111.
        told(x, "fill 1 1 13");
        int[] want = {1, 2, 2, 2, 2, 3, 3, 3, 3};
        for (int l = 0; l < want.length; l++) {
            due.is("level(" + l + ")", x.level(l), want[l]);
        }
        due.is("level(9)", x.level(9), UNKNOWN);
        due.is("level(-1)", x.level(-1), UNKNOWN);
        due.is("count(4)", x.count(4), 21);
        told(x, "del 1;del 2;del 3");
        marksAre(x, 8, 255);
        due.is("level(5)", x.level(5), 2);
        due.is("count(4)", x.count(4), 17);
        told(x, "plan 4 2");
        due.is("level(4)", x.level(4), 1);
        due.is("level(5)", x.level(5), UNKNOWN);
    }

    private static void promise18() {
        PrefixIndex x = fresh("18 marks");
        told(x, "fill 1 1 13");
        due.is("marks(0, 0)", x.marks(0, 0), 3);
        due.is("marks(1, 0)", x.marks(1, 0), 2);
        due.is("marks(1, 1)", x.marks(1, 1), 1);
        due.is("marks(4, 0)", x.marks(4, 0), 2);
        due.is("marks(5, 0)", x.marks(5, 0), 1);
        due.is("marks(5, 1)", x.marks(5, 1), 1);
        due.is("marks(5, 2)", x.marks(5, 2), 0);
        due.is("marks(8, 4)", x.marks(8, 4), 1);
        due.is("marks(8, 5)", x.marks(8, 5), 0);
        due.is("marks(8, 255)", x.marks(8, 255), 1);
        due.is("marks(0, 1)", x.marks(0, 1), OUTSIDE);
        due.is("marks(8, 256)", x.marks(8, 256), OUTSIDE);
        due.is("marks(3, -1)", x.marks(3, -1), OUTSIDE);
        due.is("marks(9, -1)", x.marks(9, -1), UNKNOWN);
        due.is("marks(-1, 0)", x.marks(-1, 0), UNKNOWN);
        due.is("marks(32, 0)", x.marks(32, 0), UNKNOWN);
        due.is("marks(8, MAX)", x.marks(8, MAX), OUTSIDE);
    }

    private static void promise19() {
        PrefixIndex x = fresh("19 under");
        told(x, "fill 1 1 13");
        due.is("under(0, 0, 0)", x.under(0, 0, 0), 4);
        due.is("under(0, 0, 1)", x.under(0, 0, 1), 255);
        due.is("under(1, 0, 0)", x.under(1, 0, 0), 4);
        due.is("under(1, 0, 1)", x.under(1, 0, 1), 8);
        due.is("under(5, 1, 0)", x.under(5, 1, 0), 8);
        due.is("under(5, 2, 0)", x.under(5, 2, 0), NONE);
        due.is("under(5, 2, 1)", x.under(5, 2, 1), NONE);
        due.is("under(8, 255, 1)", x.under(8, 255, 1), 255);
        due.is("under(8, 256, 1)", x.under(8, 256, 1), OUTSIDE);
        due.is("under(8, -1, 1)", x.under(8, -1, 1), OUTSIDE);
        due.is("under(8, 255, 2)", x.under(8, 255, 2), OUTSIDE);
        due.is("under(8, 3, -1)", x.under(8, 3, -1), OUTSIDE);
        due.is("under(9, 0, 7)", x.under(9, 0, 7), UNKNOWN);
        due.is("under(-1, 0, 0)", x.under(-1, 0, 0), UNKNOWN);
    }

    private static void sweepIs(PrefixIndex x, int a, int c, int... want) {
        for (int what = 0; what < want.length; what++) {
            due.is("sweep(" + a + ", " + c + ", " + what + ")", x.sweep(a, c, what), want[what]);
        }
    }

    private static void promise20() {
        PrefixIndex x = fresh("20 sweep");
        sweepIs(x, 0, 255, 1, 0, 0);
        // Buckets 1 2 3 4, 5 6 7 8 9 12 under 4, 255.
        told(x, "fill 1 1 9;add 12");
        sweepIs(x, 1, 2, 2, 0, 0);
        // 3 gone, one is left: joined to 7 keys, split to 3 and 4.
        sweepIs(x, 1, 3, 2, 1, 1);
        sweepIs(x, 0, 255, 1, 1, 2);
        sweepIs(x, 5, 8, 2, 0, 0);
        sweepIs(x, 5, 9, 1, 0, 1);
        sweepIs(x, 13, 255, 2, 0, 0);
        sweepIs(x, 7, 7, 2, 0, 0);
        due.is("sweep(8, 7, 0)", x.sweep(8, 7, 0), OUTSIDE);
        due.is("sweep(-1, 7, 0)", x.sweep(-1, 7, 0), OUTSIDE);
        due.is("sweep(0, 256, 0)", x.sweep(0, 256, 0), OUTSIDE);
        due.is("sweep(256, 256, 0)", x.sweep(256, 256, 0), OUTSIDE);
        due.is("sweep(0, 7, 3)", x.sweep(0, 7, 3), OUTSIDE);
        due.is("sweep(0, 7, -1)", x.sweep(0, 7, -1), OUTSIDE);
        keysAre(x, 1, 2, 3, 4, 5, 6, 7, 8, 9, 12);
        countsAre(x, 8, 2, 10, 2, 17, 1, 0, 0, 0, 0);
        // What the index has split and joined before does not count: 4 5 6, 7 8 9 12.
        told(x, "del 1;del 2;del 3");
        countsAre(x, 8, 2, 7, 2, 17, 2, 1);
        sweepIs(x, 0, 5, 1, 0, 1);
        sweepIs(x, 0, 4, 2, 0, 0);
        // Bits and size of the index hold in the sweep too: 0 to 5, 6 to 12, joined at two keys.
        told(x, "plan 5 3;fill 0 1 13");
        sweepIs(x, 0, 2, 2, 0, 0);
        sweepIs(x, 0, 3, 1, 0, 1);
        due.is("sweep(0, 32, 0)", x.sweep(0, 32, 0), OUTSIDE);
    }

    private static void floodIs(PrefixIndex x, int a, int d, int n, int... want) {
        for (int what = 0; what < want.length; what++) {
            due.is("flood(" + a + ", " + d + ", " + n + ", " + what + ")", x.flood(a, d, n, what), want[what]);
        }
    }

    private static void promise21() {
        PrefixIndex x = fresh("21 flood");
        floodIs(x, 0, 1, 8, 1, 0, 8);
        floodIs(x, 0, 1, 9, 2, 1, 9);
        floodIs(x, 255, 999, 96, 1, 0, 1);
        floodIs(x, 0, 2, 96, 23, 22, 96);
        floodIs(x, 9, 1, 1, 1, 0, 1);
        told(x, "fill 1 1 9");
        floodIs(x, 1, 1, 9, 2, 0, 9);
        floodIs(x, 1, 1, 13, 3, 1, 13);
        floodIs(x, 100, 1, 96, 23, 21, 96);
        due.is("flood(-1, 1, 1, 0)", x.flood(-1, 1, 1, 0), OUTSIDE);
        due.is("flood(256, 1, 1, 0)", x.flood(256, 1, 1, 0), OUTSIDE);
        due.is("flood(0, 0, 1, 0)", x.flood(0, 0, 1, 0), OUTSIDE);
        due.is("flood(0, 1000, 1, 0)", x.flood(0, 1000, 1, 0), OUTSIDE);
        due.is("flood(0, 1, 0, 0)", x.flood(0, 1, 0, 0), OUTSIDE);
        due.is("flood(0, 1, 97, 0)", x.flood(0, 1, 97, 0), OUTSIDE);
        due.is("flood(0, 1, 1, 3)", x.flood(0, 1, 1, 3), OUTSIDE);
        due.is("flood(0, 1, 1, -1)", x.flood(0, 1, 1, -1), OUTSIDE);
        due.is("flood(0, MIN, 1, 0)", x.flood(0, MIN, 1, 0), OUTSIDE);
        countsAre(x, 8, 2, 9, 2, 17, 1, 0, 0, 0, 0);
        marksAre(x, 4, 255);
        told(x, "plan 5 3");
        floodIs(x, 20, 1, 96, 1, 0, 12);
        floodIs(x, 19, 1, 96, 2, 1, 13);
    }

    private static void promise22() {
        PrefixIndex x = fresh("22 dearest");
        due.is("dearest(0)", x.dearest(0), NONE);
        due.is("dearest(1)", x.dearest(1), NONE);
        due.is("dearest(2)", x.dearest(2), OUTSIDE);
        due.is("dearest(-1)", x.dearest(-1), OUTSIDE);
        // Costs of 10 to 90: 6 6 5 6, 7 7 6 7 7 (see promise 15).
        told(x, "fill 10 10 9");
        due.is("dearest(0)", x.dearest(0), 50);
        due.is("dearest(1)", x.dearest(1), 7);
        due.is("dearest(2)", x.dearest(2), OUTSIDE);
        told(x, "plan 5 2;add 7");
        due.is("dearest(0)", x.dearest(0), 7);
        due.is("dearest(1)", x.dearest(1), 3);
        told(x, "add 0");
        // Two probes and two looks for either key: the lesser one is told.
        due.is("dearest(0)", x.dearest(0), 0);
        due.is("dearest(1)", x.dearest(1), 4);
    }

    private static void promise23() {
        PrefixIndex x = fresh("23 mean");
        due.is("mean(0)", x.mean(0), NOT);
        due.is("mean(1)", x.mean(1), NOT);
        due.is("mean(2)", x.mean(2), OUTSIDE);
        due.is("mean(-1)", x.mean(-1), OUTSIDE);
        told(x, "plan 5 2;add 7");
        due.is("mean(0)", x.mean(0), 3);
        due.is("mean(1)", x.mean(1), 1);
        told(x, "add 0");
        due.is("mean(0)", x.mean(0), 4);
        due.is("mean(1)", x.mean(1), 1);
        // Of four keys the first two need three looks, the others two: 18 / 4.
        told(x, "add 3;add 5");
        due.is("mean(0)", x.mean(0), 9);
        due.is("mean(1)", x.mean(1), 2);
        told(x, "plan 8 2;fill 10 10 9");
        due.is("mean(0)", x.mean(0), 19);
        due.is("mean(1)", x.mean(1), 3);
        due.is("mean(2)", x.mean(2), OUTSIDE);
    }

    private static void promise24() {
        PrefixIndex x = fresh("24 spread");
        // Marks 00000100, 00001000 and 11111111.
        told(x, "fill 1 1 13");
        int[] greatest = {NONE, 191, 223, 239, 247, 251, 253, 254, 255};
        int[] many = {NONE, 128, 64, 32, 8, 12, 6, 3, 3};
        for (int l = 0; l <= 8; l++) {
            due.is("spread(" + l + ", 0)", x.spread(l, 0), greatest[l]);
            due.is("spread(" + l + ", 1)", x.spread(l, 1), many[l]);
        }
        due.is("spread(9, 0)", x.spread(9, 0), UNKNOWN);
        due.is("spread(-1, 9)", x.spread(-1, 9), UNKNOWN);
        due.is("spread(3, 2)", x.spread(3, 2), OUTSIDE);
        due.is("spread(3, -1)", x.spread(3, -1), OUTSIDE);
        // Marks 00000100, 00001000, 10000010 and 11111111: behind 1 both bits go on, behind 0 a 1 does not.
        told(x, "plan 8 2;fill 1 1 9;fill 128 1 8");
        marksAre(x, 4, 8, 130, 255);
        due.is("spread(0, 0)", x.spread(0, 0), NONE);
        due.is("spread(1, 0)", x.spread(1, 0), 127);
        due.is("spread(1, 1)", x.spread(1, 1), 64);
        due.is("spread(2, 0)", x.spread(2, 0), 223);
        due.is("spread(2, 1)", x.spread(2, 1), 96);
        // Marks 0100, 1010 and 1111: the first one alone has a beginning of 1 bit that lacks one of 2.
        told(x, "plan 4 2;fill 1 1 4;fill 8 1 8;add 5");
        marksAre(x, 4, 10, 15);
        due.is("spread(1, 0)", x.spread(1, 0), 3);
        due.is("spread(1, 1)", x.spread(1, 1), 4);
        // Marks 0011, 0111 and 1111.
        told(x, "plan 4 2;fill 0 1 16");
        marksAre(x, 3, 7, 15);
        due.is("spread(1, 0)", x.spread(1, 0), 11);
        due.is("spread(1, 1)", x.spread(1, 1), 4);
        due.is("spread(2, 0)", x.spread(2, 0), 13);
        due.is("spread(2, 1)", x.spread(2, 1), 6);
        due.is("spread(4, 1)", x.spread(4, 1), 3);
    }

    private static void promise25() {
        PrefixIndex x = fresh("25 row");
        due.is("row(-1, 2)", x.row(-1, 2), UNKNOWN);
        due.is("row(3, 13)", x.row(3, 13), UNKNOWN);
        due.is("row(3, -1)", x.row(3, -1), UNKNOWN);
        due.is("row(0, 13)", x.row(0, 13), OUTSIDE);
        due.is("row(0, MAX)", x.row(0, MAX), OUTSIDE);
        due.is("row(0, -1)", x.row(0, -1), SIZE);
        due.is("row(0, MIN)", x.row(0, MIN), SIZE);
        due.is("count(7)", x.count(7), 0);
        due.is("drop(0)", x.drop(0), NULL);
        due.is("row(0, 0)", x.row(0, 0), 0);
        due.is("row(2, 12)", x.row(2, 12), 12);
        due.is("set(2, 11, 5)", x.set(2, 11, 5), 1);
        due.is("row(2, -1)", x.row(2, -1), SIZE);
        due.is("row(2, 13)", x.row(2, 13), OUTSIDE);
        due.is("sum(2)", x.sum(2), 12);
        due.is("asked()", x.asked(), 5);
        due.is("row(2, 12)", x.row(2, 12), 12);
        due.is("sum(2)", x.sum(2), 12);
        due.is("asked()", x.asked(), 0);
        due.is("row(2, 3)", x.row(2, 3), 3);
        due.is("set(2, 3, 1)", x.set(2, 3, 1), INDEX);
        due.is("count(7)", x.count(7), 3);
        due.is("drop(0)", x.drop(0), 0);
    }

    private static void promise26() {
        PrefixIndex x = fresh("26 set");
        due.is("set(3, 0, 1)", x.set(3, 0, 1), UNKNOWN);
        due.is("set(-1, 0, 1)", x.set(-1, 0, 1), UNKNOWN);
        due.is("set(0, -1, 1)", x.set(0, -1, 1), NULL);
        x.row(0, 2);
        x.row(1, 2);
        due.is("set(0, 2, 1)", x.set(0, 2, 1), INDEX);
        due.is("set(0, -1, 1)", x.set(0, -1, 1), INDEX);
        due.is("set(0, MAX, 1)", x.set(0, MAX, 1), INDEX);
        due.is("set(0, MIN, 1)", x.set(0, MIN, 1), INDEX);
        due.is("set(0, 1, MIN)", x.set(0, 1, MIN), 1);
        due.is("set(1, 0, MAX)", x.set(1, 0, MAX), 1);
        due.is("asked()", x.asked(), 0);
        x.sum(0);
        due.is("asked()", x.asked(), (long) MIN);
        x.sum(1);
        due.is("asked()", x.asked(), (long) MAX);
        x.row(0, 0);
        due.is("set(0, 0, 1)", x.set(0, 0, 1), INDEX);
    }

    private static void workIs(PrefixIndex x, int row, int i, int way, int v, int want, long asked) {
        due.is("work(" + row + ", " + i + ", " + way + ", " + v + ")", x.work(row, i, way, v), want);
        due.is("asked()", x.asked(), asked);
    }

    private static void promise27() {
        PrefixIndex x = fresh("27 work");
        workIs(x, 3, 0, 9, 1, UNKNOWN, 0);
        workIs(x, -1, 0, 0, 1, UNKNOWN, 0);
        workIs(x, 0, 0, 3, 1, OUTSIDE, 0);
        workIs(x, 0, 0, -1, 1, OUTSIDE, 0);
        workIs(x, 0, 99, 0, 1, NULL, 0);
        x.row(0, 2);
        workIs(x, 0, 2, 0, 1, INDEX, 0);
        workIs(x, 0, -1, 2, 1, INDEX, 0);
        workIs(x, 0, 2, 3, 1, OUTSIDE, 0);
        workIs(x, 0, 1, 0, 7, 1, 7);
        workIs(x, 0, 1, 1, 10, 1, -3);
        workIs(x, 0, 1, 2, -5, 1, 15);
        workIs(x, 0, 1, 2, -1, 1, -15);
        workIs(x, 0, 1, 1, MIN, 1, 2147483633L);
        workIs(x, 0, 1, 2, 0, 1, 0);
        workIs(x, 0, 0, 0, MAX, 1, 2147483647L);
        workIs(x, 0, 0, 2, MAX, 1, 4611686014132420609L);
        x.sum(0);
        due.is("asked()", x.asked(), 4611686014132420609L);
    }

    private static void promise27Over() {
        PrefixIndex x = fresh("27 work, over");
        x.row(1, 1);
        x.set(1, 0, MIN);
        workIs(x, 1, 0, 2, MIN, 1, 1L << 62);
        workIs(x, 1, 0, 2, 2, OVER, 1L << 62);
        workIs(x, 1, 0, 2, -2, 1, Long.MIN_VALUE);
        workIs(x, 1, 0, 2, -1, OVER, Long.MIN_VALUE);
        workIs(x, 1, 0, 2, 2, OVER, Long.MIN_VALUE);
        workIs(x, 1, 0, 2, MIN, OVER, Long.MIN_VALUE);
        workIs(x, 1, 0, 2, 1, 1, Long.MIN_VALUE);
        workIs(x, 1, 0, 0, -1, OVER, Long.MIN_VALUE);
        workIs(x, 1, 0, 1, 1, OVER, Long.MIN_VALUE);
        workIs(x, 1, 0, 0, 0, 1, Long.MIN_VALUE);
        workIs(x, 1, 0, 1, -1, 1, Long.MIN_VALUE + 1);
        workIs(x, 1, 0, 2, -1, 1, Long.MAX_VALUE);
        workIs(x, 1, 0, 0, 1, OVER, Long.MAX_VALUE);
        workIs(x, 1, 0, 1, -1, OVER, Long.MAX_VALUE);
        workIs(x, 1, 0, 1, MIN, OVER, Long.MAX_VALUE);
        workIs(x, 1, 0, 2, 3, OVER, Long.MAX_VALUE);
        workIs(x, 1, 0, 0, MIN, 1, Long.MAX_VALUE + MIN);
        x.sum(1);
        due.is("asked()", x.asked(), Long.MAX_VALUE + MIN);
        workIs(x, 1, 1, 0, MAX, INDEX, Long.MAX_VALUE + MIN);
    }

    private static void promise28() {
        PrefixIndex x = fresh("28 bits");
        due.is("bits(3, 0)", x.bits(3, 0), UNKNOWN);
        due.is("bits(-1, 0)", x.bits(-1, 0), UNKNOWN);
        due.is("bits(0, 0)", x.bits(0, 0), NULL);
        x.row(0, 3);
        due.is("bits(0, 3)", x.bits(0, 3), INDEX);
        due.is("bits(0, -1)", x.bits(0, -1), INDEX);
        x.set(0, 0, -1);
        x.set(0, 1, MIN);
        due.is("bits(0, 0)", x.bits(0, 0), 1);
        due.is("asked()", x.asked(), 64);
        due.is("bits(0, 1)", x.bits(0, 1), 1);
        due.is("asked()", x.asked(), 33);
        due.is("bits(0, 2)", x.bits(0, 2), 1);
        due.is("asked()", x.asked(), 0);
        x.set(0, 2, MAX);
        due.is("bits(0, 2)", x.bits(0, 2), 1);
        due.is("asked()", x.asked(), 31);
        due.is("sum(0)", x.sum(0), 3);
        due.is("asked()", x.asked(), -2);
    }

    private static void promise29() {
        PrefixIndex x = fresh("29 sum");
        due.is("sum(3)", x.sum(3), UNKNOWN);
        due.is("sum(-1)", x.sum(-1), UNKNOWN);
        due.is("sum(0)", x.sum(0), NULL);
        x.row(0, 0);
        due.is("sum(0)", x.sum(0), 0);
        due.is("asked()", x.asked(), 0);
        x.row(0, 3);
        x.set(0, 0, 5);
        x.set(0, 1, -8);
        x.set(0, 2, 1);
        due.is("sum(0)", x.sum(0), 3);
        due.is("asked()", x.asked(), -2);
        // 2^62 twice is too much, even if the third place takes it back.
        for (int i = 0; i < 2; i++) {
            x.set(0, i, MIN);
            x.work(0, i, 2, MIN);
        }
        x.set(0, 2, -1);
        x.bits(0, 2);
        due.is("sum(0)", x.sum(0), OVER);
        due.is("asked()", x.asked(), 64);
        x.set(0, 0, -1);
        x.set(0, 2, 1 << 30);
        x.work(0, 2, 2, MAX);
        x.work(0, 2, 0, 1 << 30);
        due.is("sum(0)", x.sum(0), 3);
        due.is("asked()", x.asked(), (1L << 62) - 1 + (1L << 61));
        // Taken from the first on, -1 makes room for the last.
        x.set(0, 0, -1);
        x.set(0, 2, MIN);
        x.work(0, 2, 2, MIN);
        due.is("sum(0)", x.sum(0), 3);
        due.is("asked()", x.asked(), Long.MAX_VALUE);
    }

    private static void promise30() {
        PrefixIndex x = fresh("30 load");
        due.is("load(3, -1)", x.load(3, -1), UNKNOWN);
        due.is("load(-1, 0)", x.load(-1, 0), UNKNOWN);
        due.is("load(0, -1)", x.load(0, -1), OUTSIDE);
        due.is("load(0, 0)", x.load(0, 0), NULL);
        x.row(0, 4);
        due.is("load(0, 0)", x.load(0, 0), 0);
        told(x, "fill 10 10 9");
        due.is("load(0, MIN)", x.load(0, MIN), OUTSIDE);
        due.is("load(0, 2)", x.load(0, 2), 4);
        due.is("asked()", x.asked(), 0);
        x.sum(0);
        due.is("asked()", x.asked(), 30 + 40 + 50 + 60);
        due.is("load(0, 7)", x.load(0, 7), 2);
        x.sum(0);
        due.is("asked()", x.asked(), 80 + 90 + 50 + 60);
        due.is("load(0, 9)", x.load(0, 9), 0);
        due.is("load(0, MAX)", x.load(0, MAX), 0);
        x.sum(0);
        due.is("asked()", x.asked(), 80 + 90 + 50 + 60);
        x.work(0, 0, 1, 0);
        due.is("asked()", x.asked(), 80);
        x.row(1, 0);
        due.is("load(1, 0)", x.load(1, 0), 0);
        x.row(2, 12);
        due.is("load(2, 0)", x.load(2, 0), 9);
        x.sum(2);
        due.is("asked()", x.asked(), 450);
    }

    private static void promise31() {
        PrefixIndex x = fresh("31 drop");
        due.is("drop(3)", x.drop(3), UNKNOWN);
        due.is("drop(-1)", x.drop(-1), UNKNOWN);
        due.is("drop(1)", x.drop(1), NULL);
        x.row(1, 7);
        x.row(2, 0);
        x.set(1, 0, 8);
        due.is("drop(1)", x.drop(1), 7);
        due.is("drop(1)", x.drop(1), NULL);
        due.is("drop(2)", x.drop(2), 0);
        due.is("drop(2)", x.drop(2), NULL);
        due.is("set(1, 0, 0)", x.set(1, 0, 0), NULL);
        due.is("sum(1)", x.sum(1), NULL);
        due.is("count(7)", x.count(7), 0);
        x.row(1, 1);
        due.is("sum(1)", x.sum(1), 1);
        due.is("asked()", x.asked(), 0);
    }

    private static void promise32() {
        PrefixIndex x = fresh("32 asked");
        due.is("asked()", x.asked(), 0);
        x.row(0, 2);
        x.work(0, 0, 0, 12);
        due.is("asked()", x.asked(), 12);
        x.work(0, 2, 0, 13);
        x.work(0, 0, 3, 13);
        x.bits(0, 2);
        x.bits(1, 0);
        x.sum(1);
        due.is("asked()", x.asked(), 12);
        x.set(0, 1, 3);
        x.load(0, 0);
        x.drop(0);
        x.add(1);
        x.keep(0);
        x.back(0);
        due.is("asked()", x.asked(), 12);
        told(x, "plan 9 3");
        due.is("asked()", x.asked(), 12);
        x.row(0, 1);
        x.sum(0);
        due.is("asked()", x.asked(), 0);
    }

    private static void promise33() {
        PrefixIndex x = fresh("33 count");
        due.is("count(-1)", x.count(-1), OUTSIDE);
        due.is("count(10)", x.count(10), OUTSIDE);
        due.is("count(MIN)", x.count(MIN), OUTSIDE);
        told(x, "plan 10 3;fill 0 1 13");
        x.row(0, 4);
        x.row(2, 5);
        x.add(500);
        type(x, "del");
        countsAre(x, 10, 3, 14, 2, 21, 1, 0, 9, 1, 3);
        x.erase();
        told(x, "del 0;del 1;del 2;del 3");
        countsAre(x, 10, 3, 10, 2, 21, 2, 1, 9, 0, 0);
        told(x, "add 9");
        due.is("splits", x.count(5), 2);
        due.is("joins", x.count(6), 1);
        told(x, "add 0;plan 10 3");
        countsAre(x, 10, 3, 0, 1, 11, 0, 0, 9, 0, 0);
    }
}
