/** For each promise of the document: ordinary inputs, the edges that it names, and wrong inputs. */
public final class PromisesTest extends Check {
    public static void main(String[] args) {
        promise1();
        promise2();
        promise3();
        promise4();
        promise5();
        promise6();
        promise7();
        promise8();
        promise9();
        promise10();
        promise11();
        promise12();
        promise13();
        promise14();
        promise15();
        promise16();
        promise17();
        promise18();
        promise18Suites();
        promise19();
        promise20();
        promise21();
        promise22();
        promise23();
        promise24();
        promise25();
        promise26();
        promise27();
        promise28();
        promise29();
        promise30();
        promise31();
        promise32();
        promise33();
        promise34();
        promise35();
        promise36();
        int wrong = wrongSoFar();
        System.out.println(wrong == 0 ? "all answers are as due" : wrong + " answers are not as due");
        if (wrong != 0) {
            System.exit(1);
        }
    }

    private static void promise1() {
        begin("1 a new object");
        InstallDesk x = new InstallDesk();
        for (int what = 0; what <= 6; what++) {
            due("told(" + what + ")", x.told(what), 0);
        }
        for (int what = 0; what <= 3; what++) {
            due("finds(" + what + ")", x.finds(what), 0);
            due("all(" + what + ")", x.all(what), 0);
        }
        due("needs", x.needs(), 0);
        due("lack", x.lack(), 0);
        due("cost", x.cost(), 0);
        due("today", x.today(5), 0);
        due("kept", x.kept(5), 30);
        due("back", x.back(), NONE);
    }

    private static void promise2() {
        begin("2 letter");
        InstallDesk x = new InstallDesk();
        due("letter(0)", x.letter(0), BEYOND);
        due("letter(-1)", x.letter(-1), BEYOND);
        due("letter(29)", x.letter(29), BEYOND);
        due("letter(least int)", x.letter(Integer.MIN_VALUE), BEYOND);
        due("letter(greatest int)", x.letter(Integer.MAX_VALUE), BEYOND);
        due("told(6)", x.told(6), 0);
        for (int i = 1; i <= 12; i++) {
            due("letter no. " + i, x.letter(i == 1 ? 1 : 16 + i), i);
        }
        due("letter no. 13", x.letter(1), FULL);
        due("a wrong letter no. 13", x.letter(29), BEYOND);
        due("told(6)", x.told(6), 12);
    }

    private static void promise3() {
        begin("3 product");
        InstallDesk x = new InstallDesk();
        due("kind -1", x.product(-1, 0, 1), BEYOND);
        due("kind 4", x.product(4, 0, 1), BEYOND);
        for (int kind = SUITE; kind <= PARTED; kind += 2) {
            due("bit 10", x.product(kind, 1024, 1), BEYOND);
            due("bit 10 and others", x.product(kind, 1025, 1), BEYOND);
            due("parts below 0", x.product(kind, -1, 1), BEYOND);
            due("least parts", x.product(kind, Integer.MIN_VALUE, 1), BEYOND);
            due("least 0", x.product(kind, 1, 0), BEYOND);
            due("least 11", x.product(kind, 1, 11), BEYOND);
        }
        due("told(0)", x.told(0), 0);
        due("product", x.product(PRODUCT, -1, -1), 0);
        due("free", x.product(FREE, 5000, 5000), 1);
        due("suite", x.product(SUITE, 1023, 10), 2);
        due("parted", x.product(PARTED, 0, 1), 3);
        for (int i = 4; i < 10; i++) {
            due("product no. " + i, x.product(PRODUCT, 0, 0), i);
        }
        due("an eleventh", x.product(PRODUCT, 0, 0), FULL);
        due("a wrong eleventh", x.product(SUITE, 0, 0), BEYOND);
        due("told(0)", x.told(0), 10);
    }

    private static void promise4() {
        begin("4 as");
        InstallDesk x = new InstallDesk();
        for (int kind = 0; kind <= 3; kind++) {
            x.product(kind, 0, 1);
        }
        int[][] fine = {{1, 0, 0, 0}, {1, 1, 0, 0}, {1, 0, 1, 0}, {1, 1, 0, 1}};
        for (int product = 0; product < 4; product++) {
            for (int kind = 0; kind < 4; kind++) {
                int want = fine[product][kind] == 1 ? product : KIND;
                due("as(" + product + ", " + kind + ")", x.as(product, kind), want);
            }
        }
        due("as(-1, 0)", x.as(-1, 0), BEYOND);
        due("as(4, 0)", x.as(4, 0), BEYOND);
        due("as(0, -1)", x.as(0, -1), BEYOND);
        due("as(0, 4)", x.as(0, 4), BEYOND);
    }

    private static void promise5() {
        begin("5 rule");
        InstallDesk x = new InstallDesk();
        spell(x, 1, 28);
        due("no product", x.rule(0, 0), BEYOND);
        x.product(PRODUCT, 0, 0);
        due("product -1", x.rule(0, -1), BEYOND);
        due("product 1", x.rule(0, 1), BEYOND);
        due("rank -1", x.rule(-1, 0), BEYOND);
        due("rank 10", x.rule(10, 0), BEYOND);
        due("letters stay", x.told(6), 2);
        due("a rule", x.rule(9, 0), 0);
        due("no letters wait", x.told(6), 0);
        due("of no letters", x.rule(0, 0), 1);
        due("28 first", rule(x, 0, 0, 28, 1), SIZE);
        due("no letters wait", x.told(6), 0);
        due("28 twice", rule(x, 0, 0, 28, 28), SIZE);
        due("28 alone", rule(x, 0, 0, 28), 2);
        due("twelve signs", rule(x, 0, 0, 1, 2, 3, 4, 5, 6, 7, 8, 9, 10, 27, 28), 3);
        due("28 next to last", rule(x, 0, 0, 1, 2, 3, 4, 5, 6, 7, 8, 9, 10, 28, 27), SIZE);
        due("28 the first of twelve", rule(x, 0, 0, 28, 2, 3, 4, 5, 6, 7, 8, 9, 10, 11, 12), SIZE);
        due("27 first", rule(x, 0, 0, 27, 1), 4);
        for (int i = 5; i < 16; i++) {
            due("rule no. " + i, x.rule(0, 0), i);
        }
        spell(x, 28, 1);
        due("a seventeenth", x.rule(0, 0), FULL);
        due("a wrong seventeenth", x.rule(10, 0), BEYOND);
        due("letters stay", x.told(6), 2);
        due("told(1)", x.told(1), 16);
    }

    private static void promise6() {
        begin("6 unrule");
        InstallDesk x = plain(3, 1);
        for (int i = 1; i <= 3; i++) {
            find(x, 0, 0, 1, i);
        }
        due("unrule(-1)", x.unrule(-1), BEYOND);
        due("unrule(3)", x.unrule(3), BEYOND);
        due("unrule(1)", x.unrule(1), 2);
        due("told(1)", x.told(1), 2);
        due("goes(1)", x.goes(1), UNREAD);
        due("goes(2)", x.goes(2), 2);
        due("by(2)", x.by(2), 1);
        due("unrule(0)", x.unrule(0), 1);
        due("by(2)", x.by(2), 0);
        due("unrule(1)", x.unrule(1), BEYOND);
        due("unrule(0)", x.unrule(0), 0);
        due("unrule(0)", x.unrule(0), BEYOND);
        due("goes(2)", x.goes(2), UNREAD);
        InstallDesk y = plain(1, 1);
        for (int i = 1; i < 16; i++) {
            rule(y, 1, 0, 2);
        }
        due("of sixteen", y.unrule(15), 15);
        due("one more", rule(y, 1, 0, 9), 15);
        due("of sixteen again", y.unrule(0), 15);
        find(y, 0, 0, 1, 9);
        due("the last moved up", y.by(0), 14);
        InstallDesk z = plain(2, 1);
        rule(z, 5, 0, 9);
        rule(z, 7, 1, 9);
        rule(z, 6, 0, 9);
        find(z, 0, 0, 1, 9);
        z.unrule(2);
        due("ranks move up", z.by(0), 3);
        due("goes", z.goes(0), 0);
        rule(z, 6, 1, 9);
        due("a quarrel", z.goes(0), QUARREL);
        z.unrule(4);
        due("the last goes, and the quarrel", z.goes(0), 0);
    }

    private static void promise7() {
        begin("7 fits");
        InstallDesk x = new InstallDesk();
        x.product(PRODUCT, 0, 0);
        x.host(1, 0);
        int[][] patterns = {{}, {28}, {1, 28}, {27}, {1, 2}, {27, 27, 28}, {1, 27},
            {1, 2, 3, 4, 5, 6, 7, 8, 9, 10, 11, 26}, {27, 27, 27, 27, 27, 27, 27, 27, 27, 27, 27, 28},
            {1, 2, 3, 4, 5, 6, 7, 8, 9, 10, 11}};
        int[][] names = {{}, {1}, {2}, {1, 2}, {1, 3}, {1, 2, 3},
            {1, 2, 3, 4, 5, 6, 7, 8, 9, 10, 11, 26}, {1, 2, 3, 4, 5, 6, 7, 8, 9, 10, 11}};
        String[] want = {"10000000", "11111111", "01011111", "01100000", "00010000", "00011111",
            "00011000", "00000010", "00000011", "00000001"};
        for (int[] pattern : patterns) {
            rule(x, 0, 0, pattern);
        }
        for (int[] name : names) {
            find(x, 0, 0, 1, name);
        }
        for (int r = 0; r < patterns.length; r++) {
            for (int f = 0; f < names.length; f++) {
                due("fits(" + r + ", " + f + ")", x.fits(r, f), want[r].charAt(f) - '0');
            }
        }
        due("fits(-1, 0)", x.fits(-1, 0), BEYOND);
        due("fits(10, 0)", x.fits(10, 0), BEYOND);
        due("fits(0, -1)", x.fits(0, -1), BEYOND);
        due("fits(0, 8)", x.fits(0, 8), BEYOND);
    }

    private static void promise8() {
        begin("8 host");
        InstallDesk x = new InstallDesk();
        due("cores 0", x.host(0, 0), BEYOND);
        due("cores 65", x.host(65, 0), BEYOND);
        due("person -1", x.host(1, -1), BEYOND);
        due("person 10", x.host(1, 10), BEYOND);
        due("host", x.host(1, 0), 0);
        due("host", x.host(64, 9), 1);
        for (int i = 2; i < 8; i++) {
            due("host no. " + i, x.host(5, 5), i);
        }
        due("a ninth", x.host(5, 5), FULL);
        due("a wrong ninth", x.host(0, 5), BEYOND);
        due("told(2)", x.told(2), 8);
    }

    private static void promise9() {
        begin("9 moved");
        InstallDesk x = plain(1, 2);
        due("host -1", x.moved(-1, 0), BEYOND);
        due("host 2", x.moved(2, 0), BEYOND);
        due("person -1", x.moved(0, -1), BEYOND);
        due("person 10", x.moved(0, 10), BEYOND);
        due("moved(1, 9)", x.moved(1, 9), 1);
        due("moved(1, 9)", x.moved(1, 9), 9);
        due("moved(1, 0)", x.moved(1, 0), 9);
        due("moved(0, 0)", x.moved(0, 0), 0);
        find(x, 0, 0, 1, 1);
        find(x, 1, 0, 1, 1);
        due("measure(0, 1)", x.measure(0, 1), 1);
        x.moved(1, 4);
        due("measure(0, 1)", x.measure(0, 1), 2);
    }

    private static void promise10() {
        begin("10 find");
        InstallDesk x = plain(1, 1);
        spell(x, 1);
        due("host -1", x.find(-1, 0, 1), BEYOND);
        due("host 1", x.find(1, 0, 1), BEYOND);
        due("day -1", x.find(0, -1, 1), BEYOND);
        due("day 10000", x.find(0, 10000, 1), BEYOND);
        due("version 0", x.find(0, 0, 0), BEYOND);
        due("version 10", x.find(0, 0, 10), BEYOND);
        due("letters stay", x.told(6), 1);
        due("find", x.find(0, 9999, 9), 0);
        due("no letters wait", x.told(6), 0);
        due("of no letters", x.find(0, 0, 1), 1);
        due("with 27", find(x, 0, 0, 1, 1, 27), SIZE);
        due("no letters wait", x.told(6), 0);
        due("with 28", find(x, 0, 0, 1, 1, 28), SIZE);
        due("with 27 first", find(x, 0, 0, 1, 27, 1), SIZE);
        due("of 26", find(x, 0, 0, 1, 26), 2);
        due("of twelve", find(x, 0, 0, 1, 1, 2, 3, 4, 5, 6, 7, 8, 9, 10, 11, 12), 3);
        due("27 the last of twelve", find(x, 0, 0, 1, 1, 2, 3, 4, 5, 6, 7, 8, 9, 10, 11, 27), SIZE);
        for (int i = 4; i < 40; i++) {
            due("find no. " + i, x.find(0, 0, 1), i);
        }
        spell(x, 28, 28);
        due("a forty-first", x.find(0, 0, 1), FULL);
        due("a wrong forty-first", x.find(0, 0, 0), BEYOND);
        due("letters stay", x.told(6), 2);
    }

    private static void promise11() {
        begin("11 goes");
        InstallDesk x = new InstallDesk();
        x.host(1, 0);
        x.product(PRODUCT, 0, 0);
        x.product(FREE, 0, 0);
        x.product(SUITE, 0, 1);
        rule(x, 5, 0, 28);
        rule(x, 3, 1, 1, 28);
        rule(x, 3, 1, 27, 2);
        rule(x, 3, 2, 3, 28);
        find(x, 0, 0, 1, 9);
        find(x, 0, 0, 1, 1, 2);
        find(x, 0, 0, 1, 3, 1);
        find(x, 0, 0, 1, 3, 2);
        due("the only one", x.goes(0), 0);
        due("two that tell the same", x.goes(1), 1);
        due("of a less rank", x.goes(2), 2);
        due("two that tell unlike ones", x.goes(3), QUARREL);
        rule(x, 0, 0, 3, 27);
        due("a less rank ends a quarrel", x.goes(3), 0);
        due("goes(-1)", x.goes(-1), BEYOND);
        due("goes(4)", x.goes(4), BEYOND);
        x.unrule(0);
        due("none fits", x.goes(0), UNREAD);
    }

    private static void promise12() {
        begin("12 by");
        InstallDesk x = plain(2, 1);
        rule(x, 7, 0, 9, 28);
        rule(x, 4, 1, 9, 28);
        rule(x, 4, 0, 9, 28);
        find(x, 0, 0, 1, 9, 9);
        find(x, 0, 0, 1, 8);
        due("by(0) of a quarrel", x.by(0), 3);
        due("goes(0)", x.goes(0), QUARREL);
        due("by(1)", x.by(1), UNREAD);
        due("by(-1)", x.by(-1), BEYOND);
        due("by(2)", x.by(2), BEYOND);
        x.unrule(3);
        due("by(0)", x.by(0), 3);
        x.unrule(3);
        due("by(0)", x.by(0), 2);
    }

    private static void promise13() {
        begin("13 counts");
        InstallDesk x = plain(2, 1);
        rule(x, 0, 1, 1, 28);
        find(x, 0, 100, 1, 2);
        find(x, 0, 100, 1, 1);
        find(x, 0, 100, 1, 9);
        int[][] days = {{99, 0}, {100, 1}, {101, 1}, {130, 1}, {131, 0}};
        for (int[] day : days) {
            x.today(day[0]);
            due("on day " + day[0], x.counts(0), day[1]);
            due("a quarrel on day " + day[0], x.counts(1), 0);
            due("unread on day " + day[0], x.counts(2), 0);
        }
        x.kept(31);
        due("on day 131, 31 kept", x.counts(0), 1);
        x.kept(0);
        x.today(100);
        due("on its day, 0 kept", x.counts(0), 1);
        x.today(101);
        due("a day later, 0 kept", x.counts(0), 0);
        due("counts(-1)", x.counts(-1), BEYOND);
        due("counts(3)", x.counts(3), BEYOND);
    }

    private static void promise14() {
        begin("14 finds");
        InstallDesk x = plain(2, 1);
        rule(x, 0, 1, 1, 28);
        for (int i = 0; i < 3; i++) {
            find(x, 0, i, 1, 2);
        }
        find(x, 0, 0, 1, 1);
        find(x, 0, 0, 1, 1);
        find(x, 0, 0, 1, 1, 1);
        find(x, 0, 0, 1, 7);
        x.today(1);
        due("finds(0)", x.finds(0), 4);
        due("finds(1)", x.finds(1), 2);
        due("finds(2)", x.finds(2), 1);
        due("finds(3)", x.finds(3), 3);
        find(x, 0, 0, 1, 2);
        due("finds(0) and one", x.finds(0), 5);
        x.drop(7);
        due("finds(0), one dropped", x.finds(0), 4);
        due("finds(3), one dropped", x.finds(3), 3);
        dueFirstAndLastFind();
        due("finds(-1)", x.finds(-1), BEYOND);
        due("finds(4)", x.finds(4), BEYOND);
    }

    private static void dueFirstAndLastFind() {
        int[][] names = {{1}, {3}, {9}};
        for (int what = 0; what <= 2; what++) {
            InstallDesk x = plain(1, 1);
            x.product(PRODUCT, 0, 0);
            rule(x, 0, 0, 3);
            rule(x, 0, 1, 3);
            for (int i = 0; i < 2; i++) {
                find(x, 0, 0, 1, names[what]);
            }
            due("first and last, finds(" + what + ")", x.finds(what), 2);
            due("first and last, finds(3)", x.finds(3), what == 0 ? 2 : 0);
            x.drop(1);
            due("one dropped, finds(" + what + ")", x.finds(what), 1);
            x.drop(0);
            due("all dropped, finds(" + what + ")", x.finds(what), 0);
            due("all dropped, finds(3)", x.finds(3), 0);
            due("all dropped, has(0, 0)", x.has(0, 0), NONE);
        }
    }

    private static void promise15() {
        begin("15 drop");
        InstallDesk x = plain(3, 3);
        for (int i = 0; i < 3; i++) {
            find(x, i, 0, i + 4, i + 1);
        }
        due("drop(-1)", x.drop(-1), BEYOND);
        due("drop(3)", x.drop(3), BEYOND);
        due("drop(1)", x.drop(1), 2);
        due("goes(0)", x.goes(0), 0);
        due("goes(1)", x.goes(1), 2);
        due("has(1, 1)", x.has(1, 1), NONE);
        due("has(2, 2)", x.has(2, 2), 6);
        due("drop(1)", x.drop(1), 1);
        due("drop(0)", x.drop(0), 0);
        due("drop(0)", x.drop(0), BEYOND);
        InstallDesk y = plain(1, 2);
        for (int i = 0; i < 39; i++) {
            find(y, 0, i, 1, 1);
        }
        find(y, 1, 39, 9, 1);
        y.today(39);
        y.kept(0);
        due("of forty", y.drop(0), 39);
        due("the last moved up", y.counts(38), 1);
        due("with its host and version", y.has(1, 0), 9);
        due("the one ahead of it", y.counts(37), 0);
        due("counts(39)", y.counts(39), BEYOND);
        due("one more", find(y, 0, 0, 1, 1), 39);
    }

    private static void promise16() {
        begin("16 today");
        InstallDesk x = new InstallDesk();
        due("today(-1)", x.today(-1), BEYOND);
        due("today(10000)", x.today(10000), BEYOND);
        due("today(9999)", x.today(9999), 0);
        due("today(7)", x.today(7), 9999);
        due("today(0)", x.today(0), 7);
        due("today(0)", x.today(0), 0);
    }

    private static void promise17() {
        begin("17 kept");
        InstallDesk x = new InstallDesk();
        due("kept(-1)", x.kept(-1), BEYOND);
        due("kept(1000)", x.kept(1000), BEYOND);
        due("kept(999)", x.kept(999), 30);
        due("kept(0)", x.kept(0), 999);
        due("kept(1)", x.kept(1), 0);
    }

    private static void promise18() {
        begin("18 has");
        InstallDesk x = plain(2, 2);
        find(x, 0, 0, 3, 1);
        find(x, 0, 0, 8, 1);
        find(x, 0, 0, 5, 1);
        find(x, 0, 9, 9, 1);
        find(x, 1, 0, 2, 2);
        due("has(0, 0)", x.has(0, 0), 8);
        due("has(0, 1)", x.has(0, 1), NONE);
        due("has(1, 0)", x.has(1, 0), NONE);
        due("has(1, 1)", x.has(1, 1), 2);
        x.today(31);
        due("only what counts", x.has(0, 0), 9);
        due("too old", x.has(1, 1), NONE);
        due("has(-1, 0)", x.has(-1, 0), BEYOND);
        due("has(2, 0)", x.has(2, 0), BEYOND);
        due("has(0, -1)", x.has(0, -1), BEYOND);
        due("has(0, 2)", x.has(0, 2), BEYOND);
    }

    private static void promise18Suites() {
        begin("18 has, suites");
        InstallDesk x = plain(3, 1);
        x.product(SUITE, 7, 2);
        rule(x, 0, 3, 4);
        find(x, 0, 0, 3, 1);
        dueHeld("one part of two", x, 3, 0, 0, 0);
        find(x, 0, 0, 6, 3);
        dueHeld("two parts of two", x, 0, 0, 0, 6);
        find(x, 0, 0, 5, 2);
        dueHeld("three parts of two", x, 0, 0, 0, 6);
        find(x, 0, 0, 4, 4);
        dueHeld("had with a less version", x, 0, 0, 0, 6);
        find(x, 0, 0, 9, 4);
        dueHeld("had with a greater version", x, 0, 0, 0, 9);

        InstallDesk y = new InstallDesk();
        y.product(SUITE, 0b10, 1);
        y.product(PRODUCT, 0, 0);
        y.product(SUITE, 0b101, 1);
        y.product(PARTED, 0b1100, 1);
        y.product(SUITE, 0b100000, 1);
        y.product(PRODUCT, 0, 0);
        rule(y, 0, 1, 1);
        rule(y, 0, 5, 2);
        rule(y, 0, 3, 3);
        y.host(1, 0);
        find(y, 0, 0, 2, 1);
        dueHeld("suites of suites, parted last", y, 0, 0, 2, 2, 0, 0);
        find(y, 0, 0, 7, 2);
        dueHeld("a part of a greater number", y, 0, 0, 2, 2, 7, 0);
        find(y, 0, 0, 8, 3);
        dueHeld("a suite that is its own part", y, 0, 0, 2, 8, 7, 0);

        InstallDesk z = new InstallDesk();
        z.product(SUITE, 0b10, 1);
        z.product(SUITE, 0b100, 1);
        z.product(PRODUCT, 0, 0);
        rule(z, 0, 2, 1);
        z.host(1, 0);
        find(z, 0, 0, 2, 1);
        dueHeld("made after it was asked for", z, 0, 2, 0);

        InstallDesk w = new InstallDesk();
        w.product(SUITE, 0b11, 2);
        w.product(PRODUCT, 0, 0);
        w.product(PRODUCT, 0, 0);
        w.product(PARTED, 0b1110, 2);
        rule(w, 0, 0, 1);
        rule(w, 0, 1, 2);
        rule(w, 0, 2, 3);
        w.host(1, 0);
        w.host(1, 0);
        find(w, 0, 0, 5, 1);
        find(w, 0, 0, 6, 2);
        dueHeld("itself makes no two", w, 5, 6, 0, 0);
        find(w, 1, 0, 9, 3);
        dueHeld("another host's part", w, 5, 6, 0, 0);
        find(w, 0, 0, 4, 3);
        dueHeld("parted leaves its parts", w, 5, 6, 4, 6);
        due("the other host", w.has(1, 3), NONE);

        InstallDesk v = plain(1, 1);
        v.product(SUITE, 0b1000000001, 1);
        find(v, 0, 0, 3, 1);
        dueHeld("a part that is no product yet", v, 0, 3);
    }

    private static void promise19() {
        begin("19 measure");
        InstallDesk x = new InstallDesk();
        x.product(PRODUCT, 0, 0);
        x.product(FREE, 0, 0);
        rule(x, 0, 0, 1);
        rule(x, 0, 1, 2);
        int[] cores = {1, 8, 9, 16, 17, 64, 7, 63};
        for (int i = 0; i < 8; i++) {
            x.host(cores[i], i / 3);
            if (i < 7) {
                find(x, i, 0, 1, 1);
            }
        }
        find(x, 7, 0, 1, 2);
        find(x, 0, 0, 1, 2);
        due("hosts", x.measure(0, 0), 7);
        due("persons", x.measure(0, 1), 3);
        due("cores", x.measure(0, 2), 1 + 1 + 2 + 2 + 3 + 8 + 1);
        due("uses", x.measure(0, 3), 0);
        due("free hosts", x.measure(1, 0), 2);
        due("free persons", x.measure(1, 1), 2);
        due("free cores", x.measure(1, 2), 9);
        x.use(0, 0, 1, 5);
        x.use(0, 0, 4, 6);
        x.use(0, 0, 5, 7);
        x.use(0, 1, 4, 6);
        due("uses", x.measure(0, 3), 2);
        due("free uses", x.measure(1, 3), 1);
        due("measure(-1, 0)", x.measure(-1, 0), BEYOND);
        due("measure(2, 0)", x.measure(2, 0), BEYOND);
        due("measure(0, -1)", x.measure(0, -1), BEYOND);
        due("measure(0, 4)", x.measure(0, 4), BEYOND);
        InstallDesk y = plain(1, 0);
        y.host(1, 0);
        y.host(1, 9);
        find(y, 0, 0, 1, 1);
        find(y, 1, 0, 1, 1);
        due("the first and the last person", y.measure(0, 1), 2);
    }

    private static void promise20() {
        begin("20 all");
        InstallDesk x = new InstallDesk();
        x.product(PRODUCT, 0, 0);
        x.product(FREE, 0, 0);
        x.product(PARTED, 1, 1);
        rule(x, 0, 0, 1);
        rule(x, 0, 1, 2);
        x.host(10, 3);
        x.host(20, 3);
        find(x, 0, 0, 1, 1);
        find(x, 1, 0, 1, 1);
        find(x, 1, 0, 1, 2);
        x.use(0, 0, 0, 9);
        x.use(0, 0, 8, 10);
        x.use(0, 1, 0, 9);
        due("all(0)", x.all(0), 2 + 1 + 2);
        due("all(1)", x.all(1), 1 + 1 + 1);
        due("all(2)", x.all(2), 5 + 3 + 5);
        due("all(3)", x.all(3), 2 + 1);
        due("eighty", eighty().all(0), 80);
        due("eighty, of one person", eighty().all(1), 10);
        due("eighty, of one core", eighty().all(2), 80);
        due("all(-1)", x.all(-1), BEYOND);
        due("all(4)", x.all(4), BEYOND);
    }

    private static void promise21() {
        begin("21 use");
        InstallDesk x = plain(2, 0);
        due("person -1", x.use(-1, 0, 0, 1), BEYOND);
        due("person 10", x.use(10, 0, 0, 1), BEYOND);
        due("product -1", x.use(0, -1, 0, 1), BEYOND);
        due("product 2", x.use(0, 2, 0, 1), BEYOND);
        due("from -1", x.use(0, 0, -1, 1), BEYOND);
        due("to 1000", x.use(0, 0, 0, 1000), BEYOND);
        due("from as to", x.use(0, 0, 7, 7), BEYOND);
        due("from above to", x.use(0, 0, 8, 7), BEYOND);
        due("from far above", x.use(0, 0, Integer.MAX_VALUE, Integer.MIN_VALUE), BEYOND);
        due("use", x.use(0, 0, 0, 999), 0);
        due("use", x.use(9, 1, 998, 999), 1);
        for (int i = 2; i < 30; i++) {
            due("use no. " + i, x.use(0, 0, 0, 1), i);
        }
        due("a thirty-first", x.use(0, 0, 0, 1), FULL);
        due("a wrong thirty-first", x.use(0, 0, 1, 1), BEYOND);
        due("told(3)", x.told(3), 30);
        due("at(0, 0)", x.at(0, 0), 29);
        due("peak(1)", x.peak(1), 998);
        due("measure(0, 3)", x.measure(0, 3), 29);
    }

    private static void promise22() {
        begin("22 at");
        InstallDesk x = plain(2, 0);
        x.use(0, 0, 3, 5);
        x.use(0, 0, 4, 999);
        x.use(0, 1, 0, 999);
        int[][] ticks = {{0, 0}, {2, 0}, {3, 1}, {4, 2}, {5, 1}, {998, 1}, {999, 0}};
        for (int[] tick : ticks) {
            due("at(0, " + tick[0] + ")", x.at(0, tick[0]), tick[1]);
        }
        due("at(1, 0)", x.at(1, 0), 1);
        due("at(-1, 0)", x.at(-1, 0), BEYOND);
        due("at(2, 0)", x.at(2, 0), BEYOND);
        due("at(0, -1)", x.at(0, -1), BEYOND);
        due("at(0, 1000)", x.at(0, 1000), BEYOND);
    }

    private static void promise23() {
        begin("23 peak");
        InstallDesk x = plain(3, 0);
        due("peak(-1)", x.peak(-1), BEYOND);
        due("peak(3)", x.peak(3), BEYOND);
        x.use(0, 1, 0, 999);
        due("no use of it", x.peak(0), NONE);
        due("one from 0 on", x.peak(1), 0);
        x.use(0, 0, 50, 60);
        due("one", x.peak(0), 50);
        x.use(0, 0, 20, 30);
        due("two apart", x.peak(0), 20);
        x.use(0, 0, 70, 80);
        due("three apart", x.peak(0), 20);
        x.use(0, 0, 55, 56);
        due("two at once", x.peak(0), 55);
        x.use(0, 0, 30, 40);
        due("one ends as one begins", x.peak(0), 55);
        x.use(0, 0, 25, 26);
        due("an earlier two", x.peak(0), 25);
        due("measure(0, 3)", x.measure(0, 3), 2);
    }

    private static void promise24() {
        begin("24 right");
        InstallDesk x = plain(2, 0);
        due("product -1", x.right(-1, 1, 0, 0, 0, 0), BEYOND);
        due("product 2", x.right(2, 1, 0, 0, 0, 0), BEYOND);
        due("version 0", x.right(0, 0, 0, 0, 0, 0), BEYOND);
        due("version 10", x.right(0, 10, 0, 0, 0, 0), BEYOND);
        due("amount -1", x.right(0, 1, -1, 0, 0, 0), BEYOND);
        due("amount 41", x.right(0, 1, 41, 0, 0, 0), BEYOND);
        due("price -1", x.right(0, 1, 0, -1, 0, 0), BEYOND);
        due("price 1001", x.right(0, 1, 0, 1001, 0, 0), BEYOND);
        due("from -1", x.right(0, 1, 0, 0, -1, 0), BEYOND);
        due("to 10000", x.right(0, 1, 0, 0, 0, 10000), BEYOND);
        due("from above to", x.right(0, 1, 0, 0, 5, 4), BEYOND);
        due("right", x.right(0, 1, 0, 0, 0, 0), 0);
        due("right", x.right(1, 9, 40, 1000, 9999, 9999), 1);
        for (int i = 2; i < 10; i++) {
            due("right no. " + i, x.right(0, 1, 1, 1, 1, 2), i);
        }
        due("an eleventh", x.right(0, 1, 0, 0, 0, 0), FULL);
        due("a wrong eleventh", x.right(0, 1, 0, 0, 1, 0), BEYOND);
        due("told(4)", x.told(4), 10);
    }

    private static void promise25() {
        begin("25 amount");
        InstallDesk x = plain(1, 1);
        find(x, 0, 0, 1, 1);
        x.right(0, 1, 7, 3, 0, 9);
        due("right -1", x.amount(-1, 0), BEYOND);
        due("right 1", x.amount(1, 0), BEYOND);
        due("amount -1", x.amount(0, -1), BEYOND);
        due("amount 41", x.amount(0, 41), BEYOND);
        due("amount(0, 40)", x.amount(0, 40), 7);
        due("lack", x.lack(), 0);
        due("amount(0, 0)", x.amount(0, 0), 40);
        due("lack", x.lack(), 1);
        due("amount(0, 1)", x.amount(0, 1), 0);
        due("lack", x.lack(), 0);
    }

    private static void promise26() {
        begin("26 may");
        InstallDesk x = plain(2, 2);
        x.product(FREE, 0, 0);
        rule(x, 0, 2, 3);
        find(x, 0, 10, 5, 1);
        find(x, 0, 10, 5, 3);
        find(x, 1, 10, 5, 2);
        x.right(0, 5, 0, 0, 10, 20);
        x.right(0, 4, 9, 0, 0, 99);
        x.right(0, 6, 9, 0, 12, 20);
        x.right(2, 9, 9, 0, 0, 99);
        x.right(1, 9, 9, 0, 0, 99);
        x.today(10);
        due("of its version, its first day, no amount", x.may(0, 0), 1);
        due("of a less version", x.may(1, 0), 0);
        due("ahead of its first day", x.may(2, 0), 0);
        due("free", x.may(3, 0), NONE);
        due("not had", x.may(4, 0), NONE);
        due("had", x.may(4, 1), 1);
        due("not had", x.may(0, 1), NONE);
        x.today(20);
        due("on its last day", x.may(0, 0), 1);
        due("of a greater version", x.may(2, 0), 1);
        x.today(21);
        due("behind its last day", x.may(0, 0), 0);
        x.today(41);
        due("too old", x.may(0, 0), NONE);
        due("may(-1, 0)", x.may(-1, 0), BEYOND);
        due("may(5, 0)", x.may(5, 0), BEYOND);
        due("may(0, -1)", x.may(0, -1), BEYOND);
        due("may(0, 2)", x.may(0, 2), BEYOND);
    }

    private static void promise27() {
        begin("27 needs");
        InstallDesk x = plain(2, 3);
        x.product(FREE, 0, 0);
        x.product(PARTED, 1, 1);
        rule(x, 0, 2, 3);
        find(x, 0, 0, 1, 2);
        due("one", x.needs(), 1);
        find(x, 1, 0, 1, 2);
        find(x, 1, 0, 2, 2);
        due("one a host", x.needs(), 2);
        find(x, 2, 0, 1, 3);
        due("none of what is free", x.needs(), 2);
        find(x, 2, 0, 1, 1);
        due("a part and what is parted", x.needs(), 4);
        InstallDesk y = eighty();
        due("eighty", y.needs(), 80);
        due("eighty lack", y.lack(), 80);
        due("above 79", y.when(79), 0);
        due("above 80", y.when(80), NONE);
    }

    private static void promise28() {
        begin("28 lack");
        InstallDesk x = plain(2, 4);
        for (int i = 0; i < 4; i++) {
            find(x, i, 0, 2 * i + 1, 1);
        }
        due("no rights", x.lack(), 4);
        x.right(1, 9, 40, 0, 0, 9999);
        due("of another product", x.lack(), 4);
        x.right(0, 3, 40, 5, 0, 9999);
        due("for versions up to 3", x.lack(), 2);
        x.right(0, 9, 1, 1, 0, 9999);
        due("a cheap one is not spent on a low version", x.lack(), 1);
        x.right(0, 9, 40, 1, 1, 9999);
        due("not yet", x.lack(), 1);
        x.today(1);
        due("now", x.lack(), 0);
        InstallDesk y = plain(1, 2);
        y.product(FREE, 0, 0);
        rule(y, 0, 1, 2);
        find(y, 0, 0, 1, 2);
        due("free", y.lack(), 0);
    }

    private static void promise29() {
        begin("29 cost");
        InstallDesk x = plain(2, 3);
        find(x, 0, 0, 1, 1);
        find(x, 1, 0, 5, 1);
        due("no rights", x.cost(), 0);
        x.right(0, 9, 1, 10, 0, 99);
        due("one right for two", x.cost(), 10);
        x.right(0, 1, 1, 900, 0, 99);
        due("to lack less is worth any price", x.cost(), 910);
        x.right(0, 9, 1, 20, 0, 99);
        due("cheaper ones", x.cost(), 30);
        x.right(0, 4, 5, 0, 0, 99);
        due("for nothing", x.cost(), 10);
        find(x, 2, 0, 9, 2);
        x.right(1, 9, 40, 1000, 0, 99);
        due("two products", x.cost(), 1010);
        InstallDesk y = eighty();
        for (int i = 0; i < 10; i++) {
            y.right(i, 1, 8, 1000, 0, 0);
        }
        due("eighty at 1000", y.cost(), 80000);
        due("none lacks", y.lack(), 0);
    }

    private static void promise30() {
        begin("30 of");
        InstallDesk x = plain(2, 3);
        x.product(FREE, 0, 0);
        rule(x, 0, 2, 3);
        find(x, 0, 0, 1, 1);
        find(x, 1, 0, 1, 1);
        find(x, 1, 0, 1, 2);
        find(x, 1, 0, 1, 3);
        x.right(0, 9, 1, 7, 0, 99);
        x.right(1, 9, 2, 5, 0, 99);
        x.right(2, 9, 2, 5, 0, 99);
        due("of(0, false)", x.of(0, false), 1);
        due("of(0, true)", x.of(0, true), 7);
        due("of(1, false)", x.of(1, false), 0);
        due("of(1, true)", x.of(1, true), 5);
        due("of(2, false)", x.of(2, false), 0);
        due("of(2, true)", x.of(2, true), 0);
        due("of(-1, false)", x.of(-1, false), BEYOND);
        due("of(3, true)", x.of(3, true), BEYOND);
    }

    private static void promise31() {
        begin("31 without");
        InstallDesk x = plain(2, 3);
        for (int i = 0; i < 3; i++) {
            find(x, i, 0, i + 1, 1);
        }
        x.right(0, 3, 1, 1, 0, 99);
        x.right(0, 2, 2, 1, 0, 99);
        x.right(0, 1, 1, 1, 0, 99);
        due("without(0)", x.without(0), 1);
        due("lack", x.lack(), 0);
        due("without(1)", x.without(1), 1);
        due("without(2)", x.without(2), 0);
        due("without(-1)", x.without(-1), BEYOND);
        due("without(3)", x.without(3), BEYOND);
        due("nothing has changed", x.lack(), 0);
        due("amount(0, 1)", x.amount(0, 1), 1);
    }

    private static void promise32() {
        begin("32 spared");
        InstallDesk x = plain(2, 3);
        find(x, 0, 0, 9, 1);
        find(x, 0, 0, 9, 2);
        find(x, 1, 0, 2, 1);
        x.right(0, 5, 1, 1, 0, 99);
        due("lack", x.lack(), 2);
        due("spared(0)", x.spared(0), 0);
        due("spared(1)", x.spared(1), 2);
        due("spared(2)", x.spared(2), 2);
        due("spared(-1)", x.spared(-1), BEYOND);
        due("spared(3)", x.spared(3), BEYOND);
        due("nothing has changed", x.lack(), 2);
        due("has(0, 0)", x.has(0, 0), 9);
        InstallDesk y = eighty();
        for (int host = 0; host < 8; host++) {
            due("one of eight, " + host, y.spared(host), 70);
        }
    }

    private static void promise33() {
        begin("33 when");
        InstallDesk x = plain(1, 2);
        find(x, 0, 5, 1, 1);
        find(x, 1, 5, 1, 1);
        x.today(5);
        x.right(0, 9, 1, 1, 5, 9);
        x.right(0, 9, 1, 1, 0, 9998);
        x.right(0, 9, 1, 1, 8, 20);
        due("when(0), first asked", x.when(0), 21);
        due("when(-1)", x.when(-1), BEYOND);
        due("when(81)", x.when(81), BEYOND);
        due("when(0)", x.when(0), 21);
        due("when(1)", x.when(1), 9999);
        due("when(2)", x.when(2), NONE);
        due("when(80)", x.when(80), NONE);
        x.amount(1, 2);
        due("up to the last day", x.when(0), 9999);
        due("both at once", x.when(1), 9999);
        x.right(0, 9, 2, 1, 0, 9999);
        due("never", x.when(0), NONE);
        x.amount(3, 0);
        x.amount(1, 0);
        due("today", x.when(0), 5);
        due("a gap that opens later", x.when(1), 21);
        x.amount(0, 2);
        due("a gap ahead of a later right", x.when(0), 10);
        x.today(21);
        due("finds as today", x.when(1), 21);
        x.today(36);
        due("no finds count today", x.when(0), NONE);
    }

    private static void promise34() {
        begin("34 keep");
        InstallDesk x = plain(1, 1);
        due("no finds", x.keep(), 0);
        find(x, 0, 0, 1, 1);
        find(x, 0, 0, 1, 1);
        spell(x, 1, 2);
        due("two finds", x.keep(), 2);
        due("letters wait on", x.told(6), 2);
        x.drop(0);
        x.drop(0);
        due("in place of what was", x.back(), 2);
        due("letters wait on", x.told(6), 2);
        x.drop(0);
        due("one find", x.keep(), 1);
        x.drop(0);
        due("in place of what was", x.back(), 1);
    }

    private static void promise35() {
        begin("35 back");
        InstallDesk x = plain(2, 2);
        due("nothing is kept", x.back(), NONE);
        find(x, 0, 3, 4, 1);
        x.use(1, 0, 5, 9);
        x.right(0, 4, 3, 2, 1, 8);
        x.today(3);
        x.kept(6);
        x.keep();
        for (int time = 0; time < 2; time++) {
            upset(x);
            spell(x, 5);
            int findings = x.told(5);
            due("back", x.back(), 1);
            due("findings go on", x.told(5), findings);
            due("letters stay", x.told(6), 1);
            x.find(0, 9000, 1);
            x.drop(1);
            due("today", x.today(3), 3);
            due("kept", x.kept(6), 6);
            due("products", x.told(0), 2);
            due("rules", x.told(1), 2);
            due("hosts", x.told(2), 2);
            due("uses", x.told(3), 1);
            due("rights", x.told(4), 1);
            due("goes", x.goes(0), 0);
            due("has", x.has(0, 0), 4);
            due("person", x.moved(0, 0), 0);
            due("amount", x.amount(0, 3), 3);
            due("cost", x.cost(), 2);
            due("peak", x.peak(0), 5);
            due("as", x.as(1, FREE), KIND);
        }
        dueRowsBack();
        dueGoneWithBack();
    }

    /** Rows whose places others have taken since they were kept. */
    private static void dueRowsBack() {
        InstallDesk x = plain(2, 2);
        x.unrule(0);
        x.unrule(0);
        rule(x, 1, 0, 1, 28);
        rule(x, 2, 1, 28);
        find(x, 0, 8, 4, 1, 1);
        find(x, 1, 6, 5, 2);
        x.today(8);
        x.kept(1);
        x.keep();
        x.drop(0);
        x.drop(0);
        x.unrule(0);
        x.unrule(0);
        rule(x, 3, 1, 4, 28);
        rule(x, 1, 0, 27);
        find(x, 1, 7, 6, 4);
        find(x, 0, 8, 7, 1);
        due("back", x.back(), 2);
        due("goes(0)", x.goes(0), 0);
        due("goes(1)", x.goes(1), 1);
        due("by(0)", x.by(0), 0);
        due("fits(0, 0)", x.fits(0, 0), 1);
        due("fits(0, 1)", x.fits(0, 1), 0);
        due("fits(1, 1)", x.fits(1, 1), 1);
        due("counts(0)", x.counts(0), 1);
        due("counts(1)", x.counts(1), 0);
        due("has(0, 0)", x.has(0, 0), 4);
        x.today(7);
        due("has(0, 0) a day ahead", x.has(0, 0), NONE);
        due("has(1, 1)", x.has(1, 1), 5);
    }

    /** What was told after keep is as if it had never been. */
    private static void dueGoneWithBack() {
        InstallDesk x = plain(1, 1);
        x.keep();
        x.use(0, 0, 3, 9);
        x.product(PRODUCT, 0, 0);
        x.use(0, 1, 3, 9);
        rule(x, 0, 0, 28);
        find(x, 0, 0, 1, 5);
        x.right(0, 9, 9, 9, 0, 99);
        x.back();
        due("at(0, 3)", x.at(0, 3), 0);
        due("peak(0)", x.peak(0), NONE);
        due("measure(0, 3)", x.measure(0, 3), 0);
        due("all(3)", x.all(3), 0);
        due("as(1, 0)", x.as(1, 0), BEYOND);
        due("amount(0, 0)", x.amount(0, 0), BEYOND);
        due("finds(0)", x.finds(0), 0);
        find(x, 0, 0, 1, 5);
        due("goes(0)", x.goes(0), UNREAD);
        find(x, 0, 0, 1, 1);
        due("lack", x.lack(), 1);
    }

    private static void upset(InstallDesk x) {
        x.drop(0);
        x.unrule(0);
        rule(x, 9, 1, 28);
        x.product(SUITE, 3, 1);
        x.moved(0, 7);
        x.host(1, 1);
        x.amount(0, 0);
        x.right(1, 1, 1, 1, 1, 1);
        x.use(2, 1, 0, 1);
        rule(x, 0, 2, 1);
        find(x, 2, 0, 9, 1);
        find(x, 2, 0, 8, 2);
        x.today(77);
        x.kept(0);
        x.letter(0);
    }

    private static void promise36() {
        begin("36 told");
        InstallDesk x = plain(3, 2);
        rule(x, 0, 0, 28);
        x.use(0, 0, 0, 1);
        x.right(0, 1, 0, 0, 0, 0);
        x.right(0, 1, 0, 0, 0, 0);
        spell(x, 1, 1, 1);
        due("told(0)", x.told(0), 3);
        due("told(1)", x.told(1), 4);
        due("told(2)", x.told(2), 2);
        due("told(3)", x.told(3), 1);
        due("told(4)", x.told(4), 2);
        due("told(5)", x.told(5), 0);
        due("told(6)", x.told(6), 3);
        due("told(-1)", x.told(-1), BEYOND);
        due("told(7)", x.told(7), BEYOND);
        due("told(5)", x.told(5), 2);
        x.find(0, 0, 1);
        due("goes(0)", x.goes(0), 0);
        due("by(0)", x.by(0), 3);
        x.unrule(0);
        x.unrule(0);
        x.unrule(0);
        due("by(0)", x.by(0), 0);
        due("answers of 0 are no findings", x.told(5), 2);
        x.product(SUITE, -1, 1);
        due("told(5), wrong parts", x.told(5), 3);
        x.right(0, 1, 41, 1, 0, 0);
        due("told(5), a wrong amount", x.told(5), 4);
        x.right(0, 1, 1, 1001, 0, 0);
        due("told(5), a wrong price", x.told(5), 5);
        dueEachFindingCounts();
    }

    private static void dueEachFindingCounts() {
        InstallDesk x = new InstallDesk();
        int[] answers = {x.letter(0), x.product(4, 0, 0), x.as(0, 0), x.rule(0, 0), x.unrule(0),
            x.fits(0, 0), x.host(0, 0), x.moved(0, 0), x.find(0, 0, 1), x.goes(0), x.by(0),
            x.counts(0), x.finds(4), x.drop(0), x.today(-1), x.kept(-1), x.has(0, 0),
            x.measure(0, 0), x.all(4), x.use(0, 0, 0, 1), x.at(0, 0), x.peak(0),
            x.right(0, 1, 1, 1, 1, 1), x.amount(0, 0), x.may(0, 0), x.of(0, false), x.without(0),
            x.spared(0), x.when(81)};
        for (int i = 0; i < answers.length; i++) {
            due("wrong act no. " + i, answers[i], BEYOND);
        }
        due("told(5)", x.told(5), answers.length);
        x.back();
        due("told(5) with NONE", x.told(5), answers.length + 1);
        x.product(PRODUCT, 0, 0);
        x.host(1, 0);
        x.as(0, 1);
        due("told(5) with KIND", x.told(5), answers.length + 2);
        x.find(0, 0, 1);
        x.goes(0);
        x.by(0);
        due("told(5) with UNREAD", x.told(5), answers.length + 4);
        x.has(0, 0);
        x.peak(0);
        x.when(0);
        x.right(0, 1, 1, 1, 1, 1);
        x.may(0, 0);
        due("told(5) with NONE", x.told(5), answers.length + 8);
        x.product(PRODUCT, 0, 0);
        x.rule(0, 0);
        x.rule(0, 1);
        x.goes(0);
        due("told(5) with QUARREL", x.told(5), answers.length + 9);
        rule(x, 0, 0, 28, 28);
        find(x, 0, 0, 1, 28);
        due("told(5) with SIZE", x.told(5), answers.length + 11);
        dueFullCounts();
    }

    private static void dueFullCounts() {
        InstallDesk x = new InstallDesk();
        for (int i = 0; i < 41; i++) {
            x.letter(1);
            x.product(PRODUCT, 0, 0);
            x.host(1, 0);
            x.use(0, 0, 0, 1);
            x.right(0, 1, 1, 1, 1, 1);
            x.rule(0, 0);
            x.find(0, 0, 1);
        }
        for (int i = 0; i < 13; i++) {
            x.letter(1);
        }
        // One letter still waits when the finds are full, so of thirteen more two are too many.
        int full = 31 + 33 + 11 + 31 + 25 + 1 + 2;
        due("told(5) with FULL", x.told(5), full);
    }
}
