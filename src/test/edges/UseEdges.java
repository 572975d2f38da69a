/** The sentences of the promises 21 to 23: uses. */
final class UseEdges extends Check {

    @Says(part = 21, words = "A new USE: its number.")
    static void useItsNumber() {
        InstallDesk x = plain(2, 0);
        for (int i = 0; i < 30; i++) {
            due("use no. " + i, x.use(i % 10, i % 2, i, i + 1), i);
            due("uses", x.told(3), i + 1);
        }
        for (int i = 0; i < 30; i++) {
            due("at tick " + i, x.at(i % 2, i), 1);
            due("of the other product", x.at(1 - i % 2, i), 0);
        }
    }

    @Says(part = 21, words = "BEYOND: no such person,")
    static void useBeyondPerson() {
        InstallDesk x = plain(1, 0);
        dueBeyondOutside("person", person -> x.use(person, 0, 0, 1), 0, 9);
        due("none is made", x.told(3), 0);
        due("the first person", x.use(0, 0, 0, 1), 0);
        due("the last person, who has no host", x.use(9, 0, 0, 1), 1);
    }

    @Says(part = 21, words = "product,")
    static void useBeyondProduct() {
        InstallDesk x = new InstallDesk();
        due("there is none", x.use(0, 0, 0, 1), BEYOND);
        x.product(PRODUCT, 0, 0);
        x.product(PRODUCT, 0, 0);
        dueBeyondOutside("product", product -> x.use(0, product, 0, 1), 0, 1);
        due("none is made", x.told(3), 0);
        due("the last product", x.use(0, 1, 0, 1), 0);
    }

    @Says(part = 21, words = "or ticks are not as told.")
    static void useBeyondTicks() {
        InstallDesk x = plain(1, 0);
        dueBeyondOutside("from", from -> x.use(0, 0, from, 999), 0, 998);
        dueBeyondOutside("to", to -> x.use(0, 0, 0, to), 1, 999);
        due("one tick at both ends", x.use(0, 0, 999, 999), BEYOND);
        due("both at 0", x.use(0, 0, 0, 0), BEYOND);
        due("the second below the first", x.use(0, 0, 500, 499), BEYOND);
        due("both below 0", x.use(0, 0, -2, -1), BEYOND);
        due("both above 999", x.use(0, 0, 1000, 1001), BEYOND);
        due("as far apart as can be", x.use(0, 0, Integer.MIN_VALUE, Integer.MAX_VALUE), BEYOND);
        due("and turned about", x.use(0, 0, Integer.MAX_VALUE, Integer.MIN_VALUE), BEYOND);
        due("none is made", x.told(3), 0);
        due("the last tick", x.use(0, 0, 998, 999), 0);
        due("the first tick", x.use(0, 0, 0, 1), 1);
    }

    @Says(part = 21, words = "FULL: there are 30.")
    static void useFull() {
        InstallDesk x = plain(2, 0);
        for (int i = 0; i < 29; i++) {
            x.use(0, 0, 0, 1);
        }
        due("a thirtieth", x.use(0, 0, 0, 1), 29);
        due("a thirty-first", x.use(0, 1, 5, 9), FULL);
        due("uses", x.told(3), 30);
        due("the thirtieth is as it was", x.at(0, 0), 30);
        due("the thirty-first is none", x.peak(1), NONE);
    }

    @Says(part = 22, words = "How many USES of a product there are at a tick.")
    static void atHowMany() {
        InstallDesk x = plain(2, 0);
        due("there is none", x.at(0, 0), 0);
        x.use(0, 0, 3, 5);
        x.use(0, 0, 4, 999);
        x.use(0, 1, 0, 999);
        int[][] ticks = {{0, 0}, {2, 0}, {3, 1}, {4, 2}, {5, 1}, {998, 1}, {999, 0}};
        for (int[] tick : ticks) {
            due("at(0, " + tick[0] + ")", x.at(0, tick[0]), tick[1]);
        }
        due("of the other product", x.at(1, 4), 1);
    }

    @Says(part = 22, words = "BEYOND: no such product,")
    static void atBeyondProduct() {
        InstallDesk x = new InstallDesk();
        due("there is none", x.at(0, 0), BEYOND);
        x.product(PRODUCT, 0, 0);
        x.product(PRODUCT, 0, 0);
        dueBeyondOutside("product", product -> x.at(product, 0), 0, 1);
        due("the last", x.at(1, 0), 0);
    }

    @Says(part = 22, words = "or tick.")
    static void atBeyondTick() {
        InstallDesk x = plain(1, 0);
        x.use(0, 0, 0, 999);
        dueBeyondOutside("tick", tick -> x.at(0, tick), 0, 999);
        due("the first", x.at(0, 0), 1);
        due("the last", x.at(0, 999), 0);
    }

    @Says(part = 23, words = "The first tick at which there are most USES of a product.")
    static void peakFirstTick() {
        InstallDesk x = plain(2, 0);
        x.use(0, 0, 50, 60);
        due("one", x.peak(0), 50);
        x.use(0, 0, 60, 70);
        due("one ends as one begins", x.peak(0), 50);
        x.use(0, 0, 20, 30);
        due("an earlier one, told later", x.peak(0), 20);
        x.use(0, 0, 69, 80);
        due("two at once", x.peak(0), 69);
        x.use(0, 0, 59, 60);
        due("an earlier two", x.peak(0), 59);
        x.use(0, 1, 10, 11);
        x.use(0, 1, 10, 11);
        due("another product's", x.peak(0), 59);
        due("of the other", x.peak(1), 10);
        x.use(0, 1, 0, 999);
        x.use(0, 1, 998, 999);
        x.use(0, 1, 998, 999);
        due("three at tick 10 and three at the last", x.peak(1), 10);
        x.use(0, 1, 998, 999);
        due("four at the last", x.peak(1), 998);
    }

    @Says(part = 23, words = "The first tick at which there are most USES of a product.")
    static void peakAtTickZero() {
        InstallDesk x = plain(1, 0);
        x.use(0, 0, 0, 1);
        due("the first tick of all", x.peak(0), 0);
        x.use(0, 0, 998, 999);
        due("and one at the last", x.peak(0), 0);
    }

    @Says(part = 23, words = "BEYOND.")
    static void peakBeyond() {
        InstallDesk x = new InstallDesk();
        due("there is none", x.peak(0), BEYOND);
        x.product(PRODUCT, 0, 0);
        x.product(PRODUCT, 0, 0);
        dueBeyondOutside("product", x::peak, 0, 1);
        due("the last", x.peak(1), NONE);
    }

    @Says(part = 23, words = "NONE: there is no USE of it.")
    static void peakNone() {
        InstallDesk x = plain(2, 1);
        find(x, 0, 0, 1, 1);
        due("no uses at all", x.peak(0), NONE);
        x.use(0, 1, 0, 1);
        due("one of another product", x.peak(0), NONE);
        x.use(0, 0, 0, 1);
        due("one of it", x.peak(0), 0);
    }
}
