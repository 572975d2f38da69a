/** The sentences of the promises 24 to 33: rights. */
final class RightEdges extends Check {

    @Says(part = 24, words = "A new RIGHT: its number.")
    static void rightItsNumber() {
        InstallDesk x = plain(10, 1);
        for (int i = 0; i < 10; i++) {
            due("right no. " + i, x.right(i, 9 - i % 9, 4 * i, 100 * i, i, 10 * i), i);
            due("rights", x.told(4), i + 1);
        }
        for (int i = 0; i < 10; i++) {
            due("amount of " + i, x.amount(i, 0), 4 * i);
        }
    }

    @Says(part = 24, words = "BEYOND: no such product,")
    static void rightBeyondProduct() {
        InstallDesk x = new InstallDesk();
        due("there is none", x.right(0, 1, 1, 1, 1, 1), BEYOND);
        x.product(PRODUCT, 0, 0);
        x.product(PRODUCT, 0, 0);
        dueBeyondOutside("product", product -> x.right(product, 1, 1, 1, 1, 1), 0, 1);
        due("none is made", x.told(4), 0);
        due("the last product", x.right(1, 1, 1, 1, 1, 1), 0);
    }

    @Says(part = 24, words = "or a number is not as told (days 0 to 9999).")
    static void rightBeyondNumbers() {
        InstallDesk x = plain(1, 0);
        dueBeyondOutside("version", v -> x.right(0, v, 1, 1, 1, 1), 1, 9);
        dueBeyondOutside("amount", v -> x.right(0, 1, v, 1, 1, 1), 0, 40);
        dueBeyondOutside("price", v -> x.right(0, 1, 1, v, 1, 1), 0, 1000);
        due("none is made", x.told(4), 0);
        due("version 1, amount 0, price 0", x.right(0, 1, 0, 0, 1, 1), 0);
        due("version 9, amount 40, price 1000", x.right(0, 9, 40, 1000, 1, 1), 1);
    }

    @Says(part = 24, words = "or a number is not as told (days 0 to 9999).")
    static void rightBeyondDays() {
        InstallDesk x = plain(1, 0);
        dueBeyondOutside("from", v -> x.right(0, 1, 1, 1, v, 9999), 0, 9999);
        dueBeyondOutside("to", v -> x.right(0, 1, 1, 1, 0, v), 0, 9999);
        due("both below 0", x.right(0, 1, 1, 1, -2, -1), BEYOND);
        due("both above 9999", x.right(0, 1, 1, 1, 10000, 10001), BEYOND);
        due("the first above the second", x.right(0, 1, 1, 1, 501, 500), BEYOND);
        due("the last above the first", x.right(0, 1, 1, 1, 9999, 0), BEYOND);
        due("as far apart as can be",
            x.right(0, 1, 1, 1, Integer.MIN_VALUE, Integer.MAX_VALUE), BEYOND);
        due("none is made", x.told(4), 0);
        due("one day", x.right(0, 1, 1, 1, 500, 500), 0);
        due("the first day", x.right(0, 1, 1, 1, 0, 0), 1);
        due("the last day", x.right(0, 1, 1, 1, 9999, 9999), 2);
        due("all days", x.right(0, 1, 1, 1, 0, 9999), 3);
    }

    @Says(part = 24, words = "FULL: there are 10.")
    static void rightFull() {
        InstallDesk x = plain(1, 1);
        find(x, 0, 0, 9, 1);
        for (int i = 0; i < 9; i++) {
            x.right(0, 1, 1, 1, 0, 0);
        }
        due("a tenth", x.right(0, 1, 3, 1, 0, 0), 9);
        due("an eleventh", x.right(0, 9, 40, 0, 0, 9), FULL);
        due("rights", x.told(4), 10);
        due("the tenth is as it was", x.amount(9, 3), 3);
        due("the eleventh serves nothing", x.lack(), 1);
    }

    @Says(part = 25, words = "A RIGHT's AMOUNT becomes v: what it was.")
    static void amountWhatItWas() {
        InstallDesk x = plain(1, 1);
        find(x, 0, 0, 1, 1);
        x.right(0, 1, 7, 3, 0, 9);
        x.right(0, 1, 8, 4, 0, 9);
        due("the second one's", x.amount(1, 0), 8);
        due("to 40", x.amount(0, 40), 7);
        due("to 0", x.amount(0, 0), 40);
        due("lack", x.lack(), 1);
        due("to 1", x.amount(0, 1), 0);
        due("lack", x.lack(), 0);
        due("cost", x.cost(), 3);
        due("the second one's is as it was", x.amount(1, 0), 0);
    }

    @Says(part = 25, words = "BEYOND.")
    static void amountBeyond() {
        InstallDesk x = plain(1, 1);
        due("there is no right", x.amount(0, 0), BEYOND);
        x.right(0, 1, 7, 3, 0, 9);
        x.right(0, 1, 8, 3, 0, 9);
        dueBeyondOutside("right", right -> x.amount(right, 0), 0, 1);
        dueBeyondOutside("amount", v -> x.amount(0, v), 0, 40);
        dueBeyondOutside("amount", v -> x.amount(1, v), 0, 40);
        due("the first is as it was", x.amount(0, 0), 7);
        due("the last is as it was", x.amount(1, 40), 8);
    }

    @Says(part = 26, words = "Whether a RIGHT MAY serve what a host HAS of its product: 1, 0.")
    static void mayWhether() {
        InstallDesk x = plain(2, 2);
        find(x, 0, 10, 5, 1);
        find(x, 1, 10, 6, 1);
        find(x, 1, 10, 1, 2);
        x.right(0, 5, 0, 0, 10, 20);
        due("ahead of its first day, and not yet had", x.may(0, 0), NONE);
        x.today(10);
        due("of its version, on its first day, of no amount", x.may(0, 0), 1);
        due("of a version below", x.may(0, 1), 0);
        x.today(20);
        due("on its last day", x.may(0, 0), 1);
        x.today(21);
        due("behind its last day", x.may(0, 0), 0);
        x.right(0, 9, 1, 1, 22, 22);
        due("ahead of its first day", x.may(1, 0), 0);
        x.today(22);
        due("on its only day", x.may(1, 1), 1);
    }

    @Says(part = 26, words = "BEYOND: no such RIGHT,")
    static void mayBeyondRight() {
        InstallDesk x = plain(1, 1);
        find(x, 0, 0, 1, 1);
        due("there is none", x.may(0, 0), BEYOND);
        x.right(0, 1, 1, 1, 0, 0);
        x.right(0, 1, 1, 1, 0, 0);
        dueBeyondOutside("right", right -> x.may(right, 0), 0, 1);
        due("the last", x.may(1, 0), 1);
    }

    @Says(part = 26, words = "or host.")
    static void mayBeyondHost() {
        InstallDesk x = plain(1, 0);
        x.right(0, 1, 1, 1, 0, 0);
        due("there is none", x.may(0, 0), BEYOND);
        x.host(1, 0);
        x.host(1, 0);
        find(x, 1, 0, 1, 1);
        dueBeyondOutside("host", host -> x.may(0, host), 0, 1);
        due("the last", x.may(0, 1), 1);
    }

    @Says(part = 26, words = "NONE: the host does not have it,")
    static void mayNoneHad() {
        InstallDesk x = plain(2, 2);
        x.right(0, 9, 1, 1, 0, 9999);
        due("nothing is found", x.may(0, 0), NONE);
        find(x, 0, 0, 1, 2);
        find(x, 1, 0, 1, 1);
        due("another product, another host", x.may(0, 0), NONE);
        due("the host that has it", x.may(0, 1), 1);
        x.today(31);
        due("what is too old", x.may(0, 1), NONE);
        x.today(0);
        x.product(SUITE, 1, 1);
        due("what a suite took", x.may(0, 1), NONE);
        x.right(2, 9, 1, 1, 0, 9999);
        due("the suite", x.may(1, 1), 1);
    }

    @Says(part = 26, words = "or it is FREE.")
    static void mayNoneFree() {
        InstallDesk x = ofKinds(new int[] {FREE, 0, 0}, new int[] {PARTED, 1, 1});
        find(x, 0, 0, 1, 1);
        x.right(0, 9, 1, 1, 0, 9999);
        x.right(1, 9, 1, 1, 0, 9999);
        due("it is had", x.has(0, 0), 1);
        due("it is free", x.may(0, 0), NONE);
        due("made of what is free", x.may(1, 0), 1);
    }

    @Says(part = 27, words = "How many NEEDS there are.")
    static void needsHowMany() {
        due("of nothing", new InstallDesk().needs(), 0);
        due("the most", eighty().needs(), 80);
        InstallDesk x = ofKinds(new int[] {PRODUCT, 0, 0}, new int[] {FREE, 0, 0});
        find(x, 0, 0, 1, 2);
        due("of what is free", x.needs(), 0);
        find(x, 0, 0, 1, 1);
        find(x, 0, 0, 9, 1);
        due("one", x.needs(), 1);
        x.right(0, 9, 9, 9, 0, 9);
        due("served or not", x.needs(), 1);
        x.today(31);
        due("too old", x.needs(), 0);
    }

    @Says(part = 28, words = "THE LACK.")
    static void lackOfAll() {
        due("of nothing", new InstallDesk().lack(), 0);
        InstallDesk x = eighty();
        due("the most", x.lack(), 80);
        for (int i = 0; i < 10; i++) {
            x.right(i, 1, 8 - i % 2, 1, 0, 0);
        }
        due("one of each second product", x.lack(), 5);
        x.today(1);
        due("a day later", x.lack(), 80);
    }

    @Says(part = 29, words = "THE COST.")
    static void costOfAll() {
        due("of nothing", new InstallDesk().cost(), 0);
        InstallDesk x = eighty();
        due("no rights", x.cost(), 0);
        for (int i = 0; i < 10; i++) {
            x.right(i, 1, 40, 1000, 0, 0);
        }
        due("the most", x.cost(), 80000);
        x.today(1);
        due("a day later", x.cost(), 0);
    }

    @Says(part = 30, words = "THE LACK (cost: THE COST) of a product's NEEDS alone.")
    static void ofOneAlone() {
        InstallDesk x = ofKinds(new int[] {PRODUCT, 0, 0}, new int[] {PRODUCT, 0, 0},
            new int[] {FREE, 0, 0}, new int[] {PRODUCT, 0, 0});
        x.host(1, 0);
        find(x, 0, 0, 1, 1);
        find(x, 1, 0, 1, 1);
        find(x, 1, 0, 1, 2);
        find(x, 1, 0, 1, 3);
        x.right(0, 9, 1, 7, 0, 99);
        x.right(1, 9, 2, 5, 0, 99);
        x.right(2, 9, 2, 3, 0, 99);
        int[] lacks = {1, 0, 0, 0};
        int[] costs = {7, 5, 0, 0};
        for (int i = 0; i < 4; i++) {
            due("lack of " + i, x.of(i, false), lacks[i]);
            due("cost of " + i, x.of(i, true), costs[i]);
        }
        InstallDesk y = eighty();
        for (int i = 0; i < 10; i++) {
            due("of eighty, product " + i, y.of(i, false), 8);
        }
    }

    @Says(part = 30, words = "BEYOND.")
    static void ofBeyond() {
        InstallDesk x = new InstallDesk();
        due("there is none", x.of(0, false), BEYOND);
        due("there is none", x.of(0, true), BEYOND);
        x.product(PRODUCT, 0, 0);
        x.product(PRODUCT, 0, 0);
        dueBeyondOutside("lack of", product -> x.of(product, false), 0, 1);
        dueBeyondOutside("cost of", product -> x.of(product, true), 0, 1);
        due("the last", x.of(1, true), 0);
    }

    @Says(part = 31, words = "THE LACK as it would be without a RIGHT.")
    static void withoutARight() {
        InstallDesk x = plain(2, 3);
        for (int i = 0; i < 3; i++) {
            find(x, i, 0, i + 1, 1);
        }
        find(x, 0, 0, 1, 2);
        x.right(0, 3, 1, 1, 0, 99);
        x.right(0, 2, 2, 1, 0, 99);
        x.right(0, 1, 1, 1, 0, 99);
        x.right(1, 1, 0, 1, 0, 99);
        int[] lacks = {2, 2, 1, 1};
        for (int i = 0; i < 4; i++) {
            due("without(" + i + ")", x.without(i), lacks[i]);
        }
        due("with all", x.lack(), 1);
        due("nothing has changed", x.amount(0, 1), 1);
        due("nor with the next one", x.amount(1, 2), 2);
    }

    @Says(part = 31, words = "BEYOND.")
    static void withoutBeyond() {
        InstallDesk x = plain(1, 1);
        due("there is none", x.without(0), BEYOND);
        x.right(0, 1, 1, 1, 0, 0);
        x.right(0, 1, 1, 1, 0, 0);
        dueBeyondOutside("right", x::without, 0, 1);
        due("the last", x.without(1), 0);
    }

    @Says(part = 32, words = "THE LACK as it would be without a host.")
    static void sparedAHost() {
        InstallDesk x = plain(2, 4);
        find(x, 0, 0, 5, 1);
        find(x, 0, 0, 9, 2);
        find(x, 1, 0, 2, 1);
        find(x, 2, 0, 9, 1);
        x.right(0, 5, 1, 1, 0, 99);
        int[] lacks = {1, 2, 2, 3};
        for (int i = 0; i < 4; i++) {
            due("spared(" + i + ")", x.spared(i), lacks[i]);
        }
        due("with all", x.lack(), 3);
        due("nothing has changed", x.has(0, 0), 5);
        due("hosts", x.told(2), 4);
        InstallDesk y = eighty();
        for (int i = 0; i < 8; i++) {
            due("of eighty, host " + i, y.spared(i), 70);
        }
    }

    @Says(part = 32, words = "BEYOND.")
    static void sparedBeyond() {
        InstallDesk x = plain(1, 0);
        due("there is none", x.spared(0), BEYOND);
        x.host(1, 0);
        x.host(1, 0);
        dueBeyondOutside("host", x::spared, 0, 1);
        due("the last", x.spared(1), 0);
    }

    @Says(part = 33, words = "The first day from TODAY on, up to 9999, at which THE LACK")
    static void whenTheFirstDay() {
        InstallDesk x = plain(1, 1);
        find(x, 0, 20, 1, 1);
        x.today(20);
        due("today, without rights", x.when(0), 20);
        x.right(0, 1, 1, 1, 20, 20);
        due("tomorrow", x.when(0), 21);
        x.right(0, 1, 1, 1, 21, 40);
        due("one right behind another", x.when(0), 41);
        x.right(0, 1, 1, 1, 42, 9998);
        due("a gap of one day", x.when(0), 41);
        x.right(0, 1, 1, 1, 30, 50);
        due("the last day of all", x.when(0), 9999);
        x.right(0, 1, 1, 1, 9999, 9999);
        due("no day up to 9999", x.when(0), NONE);
    }

    @Says(part = 33, words = "The first day from TODAY on, up to 9999, at which THE LACK")
    static void whenTodayIsTheLastDay() {
        InstallDesk x = plain(1, 1);
        find(x, 0, 9999, 1, 1);
        x.today(9999);
        due("without rights", x.when(0), 9999);
        x.right(0, 1, 1, 1, 0, 9999);
        due("with one", x.when(0), NONE);
        x.amount(0, 0);
        due("of no amount", x.when(0), 9999);
    }

    @Says(part = 33, words = "The first day from TODAY on, up to 9999, at which THE LACK")
    static void whenOfTenRights() {
        InstallDesk x = plain(1, 1);
        find(x, 0, 0, 1, 1);
        for (int i = 9; i >= 0; i--) {
            x.right(0, 1, 1, 1, 10 * i, 10 * i + 9);
        }
        due("one behind another, told from the last on", x.when(0), 100);
        x.amount(9, 0);
        due("without the first", x.when(0), 0);
        x.today(10);
        due("but from its end on", x.when(0), 100);
        x.amount(0, 0);
        due("without the last", x.when(0), 90);
    }

    @Says(part = 33, words = "The first day from TODAY on, up to 9999, at which THE LACK")
    static void whenDaysAheadOfTodayAreNotLookedAt() {
        InstallDesk x = plain(1, 1);
        find(x, 0, 10, 1, 1);
        x.right(0, 1, 1, 1, 0, 4);
        x.right(0, 1, 1, 1, 10, 12);
        x.today(10);
        due("a gap that has been", x.when(0), 13);
    }

    @Says(part = 33, words = "(FINDS COUNT as they do TODAY, RIGHTS by that day) would be above a number.")
    static void whenFindsAsToday() {
        InstallDesk x = plain(1, 2);
        find(x, 0, 5, 1, 1);
        find(x, 1, 6, 1, 1);
        x.today(5);
        x.kept(0);
        x.right(0, 1, 1, 1, 0, 100);
        due("a find of today counts on", x.when(0), 101);
        due("a find of tomorrow does not count", x.when(1), NONE);
        x.kept(1);
        x.today(6);
        due("both count today", x.when(0), 6);
        due("both count on", x.when(1), 101);
        x.today(8);
        due("none counts today", x.when(0), NONE);
    }

    @Says(part = 33, words = "(FINDS COUNT as they do TODAY, RIGHTS by that day) would be above a number.")
    static void whenAboveANumber() {
        InstallDesk x = plain(1, 3);
        for (int i = 0; i < 3; i++) {
            find(x, i, 0, 1, 1);
            x.right(0, 1, 1, 1, 0, 10 * i + 10);
        }
        due("above 0", x.when(0), 11);
        due("above 1", x.when(1), 21);
        due("above 2", x.when(2), 31);
        due("above 3", x.when(3), NONE);
        InstallDesk y = eighty();
        due("eighty above 79", y.when(79), 0);
        due("eighty above 80", y.when(80), NONE);
    }

    @Says(part = 33, words = "BEYOND: it is not 0 to 80.")
    static void whenBeyond() {
        InstallDesk x = eighty();
        dueBeyondOutside("lack", x::when, 0, 80);
        due("the least", x.when(0), 0);
        due("the greatest", x.when(80), NONE);
    }

    @Says(part = 33, words = "NONE: there is none.")
    static void whenNone() {
        InstallDesk x = new InstallDesk();
        due("of nothing", x.when(0), NONE);
        InstallDesk y = plain(1, 1);
        find(y, 0, 0, 1, 1);
        due("as many as there are", y.when(1), NONE);
        y.right(0, 1, 1, 1, 0, 9999);
        due("served for ever", y.when(0), NONE);
    }
}
