/** The sentences of the promises 8 to 20: hosts, finds. */
final class HostEdges extends Check {

    @Says(part = 8, words = "A new host: its number.")
    static void hostItsNumber() {
        InstallDesk x = new InstallDesk();
        for (int i = 0; i < 8; i++) {
            due("host no. " + i, x.host(1 + 9 * i, i), i);
            due("hosts", x.told(2), i + 1);
        }
    }

    @Says(part = 8, words = "BEYOND.")
    static void hostBeyond() {
        InstallDesk x = new InstallDesk();
        dueBeyondOutside("cores", cores -> x.host(cores, 0), 1, 64);
        dueBeyondOutside("person", person -> x.host(1, person), 0, 9);
        due("none is made", x.told(2), 0);
        due("the least", x.host(1, 0), 0);
        due("the greatest", x.host(64, 9), 1);
    }

    @Says(part = 8, words = "FULL: there are 8.")
    static void hostFull() {
        InstallDesk x = plain(1, 7);
        due("an eighth", x.host(1, 7), 7);
        due("a ninth", x.host(64, 8), FULL);
        due("hosts", x.told(2), 8);
        find(x, 7, 0, 1, 1);
        due("the eighth one's cores are as they were", x.measure(0, 2), 1);
        due("the eighth one's person is who it was", x.moved(7, 0), 7);
    }

    @Says(part = 9, words = "A host's person becomes another one: who it was.")
    static void movedWhoItWas() {
        InstallDesk x = plain(1, 8);
        for (int i = 0; i < 8; i++) {
            due("host " + i, x.moved(i, 9 - i), i);
        }
        for (int i = 0; i < 8; i++) {
            due("host " + i + " again", x.moved(i, 0), 9 - i);
        }
        due("to the same", x.moved(0, 0), 0);
        find(x, 0, 0, 1, 1);
        find(x, 7, 0, 1, 1);
        due("persons", x.measure(0, 1), 1);
        x.moved(7, 9);
        due("unlike persons", x.measure(0, 1), 2);
    }

    @Says(part = 9, words = "BEYOND.")
    static void movedBeyond() {
        InstallDesk x = new InstallDesk();
        due("there is no host", x.moved(0, 0), BEYOND);
        x.host(1, 4);
        x.host(1, 5);
        dueBeyondOutside("host", host -> x.moved(host, 0), 0, 1);
        dueBeyondOutside("person", person -> x.moved(0, person), 0, 9);
        due("the first one's is who it was", x.moved(0, 9), 4);
        due("the last one's is who it was", x.moved(1, 0), 5);
    }

    @Says(part = 10, words = "A new FIND of the letters that wait")
    static void findOfTheLettersThatWait() {
        InstallDesk x = plain(1, 1);
        rule(x, 0, 0, 3, 1, 2);
        rule(x, 0, 0, 2);
        due("just these, in their order", x.fits(1, find(x, 0, 0, 1, 3, 1, 2)), 1);
        due("turned about", x.fits(1, find(x, 0, 0, 1, 2, 1, 3)), 0);
        due("none that waited for an earlier one", x.fits(2, find(x, 0, 0, 1, 2)), 1);
        due("of none", x.fits(x.rule(0, 0), x.find(0, 0, 1)), 1);
    }

    @Says(part = 10, words = "(none do then, also with SIZE): its number.")
    static void findNoneWaitThen() {
        InstallDesk x = plain(1, 1);
        due("a find", find(x, 0, 0, 1, 1, 2), 0);
        due("none waits", x.told(6), 0);
        due("no name", find(x, 0, 0, 1, 27, 2, 3), SIZE);
        due("none waits, either", x.told(6), 0);
        due("and no find is made", x.goes(1), BEYOND);
        due("the next number", find(x, 0, 0, 1, 1), 1);
        due("of its own letters alone", x.goes(1), 0);
    }

    @Says(part = 10, words = "BEYOND: no such host,")
    static void findBeyondHost() {
        InstallDesk x = plain(1, 0);
        spell(x, 1);
        due("there is none", x.find(0, 0, 1), BEYOND);
        x.host(1, 0);
        x.host(1, 0);
        dueBeyondOutside("host", host -> x.find(host, 0, 1), 0, 1);
        due("the letters stay", x.told(6), 1);
        due("the last host", x.find(1, 0, 1), 0);
        due("of the letters that stayed", x.goes(0), 0);
    }

    @Says(part = 10, words = "day,")
    static void findBeyondDay() {
        InstallDesk x = plain(1, 1);
        spell(x, 1);
        dueBeyondOutside("day", day -> x.find(0, day, 1), 0, 9999);
        due("the letters stay", x.told(6), 1);
        due("the last day", x.find(0, 9999, 1), 0);
        due("of the letters that stayed", x.goes(0), 0);
        due("the first day", x.find(0, 0, 1), 1);
    }

    @Says(part = 10, words = "or version (they stay).")
    static void findBeyondVersion() {
        InstallDesk x = plain(1, 1);
        spell(x, 1);
        dueBeyondOutside("version", version -> x.find(0, 0, version), 1, 9);
        due("the letters stay", x.told(6), 1);
        due("the greatest", x.find(0, 0, 9), 0);
        due("of the letters that stayed", x.goes(0), 0);
        due("the least", x.find(0, 0, 1), 1);
    }

    @Says(part = 10, words = "FULL (they stay).")
    static void findFull() {
        InstallDesk x = plain(2, 2);
        for (int i = 0; i < 39; i++) {
            x.find(0, 0, 1);
        }
        due("a fortieth", find(x, 0, 0, 7, 1), 39);
        spell(x, 2);
        due("a forty-first", x.find(1, 5, 9), FULL);
        due("the letters stay", x.told(6), 1);
        due("no forty-first is there", x.goes(40), BEYOND);
        due("the fortieth is as it was", x.goes(39), 0);
        due("with its host and version", x.has(0, 0), 7);
        x.drop(0);
        due("there is room for one", x.find(1, 0, 9), 39);
        due("of those that stayed", x.goes(39), 1);
    }

    @Says(part = 10, words = "SIZE: they are no NAME (27 or 28 is among them).")
    static void findSize() {
        for (int length = 1; length <= 12; length++) {
            for (int place = 0; place < length; place++) {
                for (int sign = 26; sign <= 28; sign++) {
                    InstallDesk x = new InstallDesk();
                    x.host(1, 0);
                    for (int i = 0; i < length; i++) {
                        x.letter(i == place ? sign : 26);
                    }
                    String what = sign + " at " + place + " of " + length;
                    due(what, x.find(0, 0, 1), sign == 26 ? 0 : SIZE);
                    due(what + ", letters", x.told(6), 0);
                    due(what + ", finds", x.finds(2), sign == 26 ? 1 : 0);
                }
            }
        }
    }

    @Says(part = 11, words = "The product to which a FIND's NAME GOES.")
    static void goesToAProduct() {
        InstallDesk x = plain(10, 1);
        for (int i = 0; i < 10; i++) {
            find(x, 0, 9999, 1, 10 - i);
        }
        for (int i = 0; i < 10; i++) {
            due("find " + i + ", though it does not count", x.goes(i), 9 - i);
        }
    }

    @Says(part = 11, words = "BEYOND.")
    static void goesBeyond() {
        InstallDesk x = plain(1, 1);
        due("there is none", x.goes(0), BEYOND);
        find(x, 0, 0, 1, 1);
        find(x, 0, 0, 1, 1);
        dueBeyondOutside("find", x::goes, 0, 1);
        due("the last", x.goes(1), 0);
    }

    @Says(part = 11, words = "QUARREL.")
    static void goesQuarrel() {
        InstallDesk x = plain(3, 1);
        rule(x, 0, 1, 1, 28);
        find(x, 0, 0, 1, 1);
        due("two tell unlike ones", x.goes(0), QUARREL);
        rule(x, 0, 2, 1);
        due("three do", x.goes(0), QUARREL);
        x.unrule(0);
        due("two others do", x.goes(0), QUARREL);
        x.unrule(2);
        due("one is left", x.goes(0), 2);
    }

    @Says(part = 11, words = "UNREAD.")
    static void goesUnread() {
        InstallDesk x = plain(1, 1);
        due("of no letters", x.goes(x.find(0, 0, 1)), UNREAD);
        due("of another letter", x.goes(find(x, 0, 0, 1, 2)), UNREAD);
        due("of one letter more", x.goes(find(x, 0, 0, 1, 1, 1)), UNREAD);
    }

    @Says(part = 12, words = "The first of the rules of the least RANK that fit a FIND's NAME.")
    static void byTheFirstOfTheLeastRank() {
        InstallDesk x = new InstallDesk();
        x.product(PRODUCT, 0, 0);
        x.product(PRODUCT, 0, 0);
        x.host(1, 0);
        find(x, 0, 0, 1, 9, 9);
        rule(x, 9, 0, 9, 28);
        due("one of the greatest rank", x.by(0), 0);
        rule(x, 0, 0, 8);
        due("one that does not fit", x.by(0), 0);
        rule(x, 4, 0, 9, 28);
        due("one of a less rank", x.by(0), 2);
        rule(x, 4, 0, 9, 9);
        due("a second one of that rank", x.by(0), 2);
        rule(x, 4, 1, 27, 9);
        due("a quarrel", x.goes(0), QUARREL);
        due("has a first rule, too", x.by(0), 2);
        rule(x, 0, 1, 28);
        due("one of the least rank of all", x.by(0), 5);
    }

    @Says(part = 12, words = "BEYOND.")
    static void byBeyond() {
        InstallDesk x = plain(1, 1);
        due("there is none", x.by(0), BEYOND);
        find(x, 0, 0, 1, 1);
        find(x, 0, 0, 1, 1);
        dueBeyondOutside("find", x::by, 0, 1);
        due("the last", x.by(1), 0);
    }

    @Says(part = 12, words = "UNREAD.")
    static void byUnread() {
        InstallDesk x = plain(1, 1);
        find(x, 0, 0, 1, 2);
        due("none fits", x.by(0), UNREAD);
        x.unrule(0);
        due("there is no rule", x.by(0), UNREAD);
    }

    @Says(part = 13, words = "Whether a FIND COUNTS: 1, 0.")
    static void countsWhether() {
        InstallDesk x = plain(1, 1);
        find(x, 0, 5, 1, 1);
        find(x, 0, 5, 1, 2);
        x.kept(2);
        int[] counts = {0, 1, 1, 1, 0};
        for (int day = 4; day <= 8; day++) {
            x.today(day);
            due("on day " + day, x.counts(0), counts[day - 4]);
            due("what is unread, on day " + day, x.counts(1), 0);
        }
    }

    @Says(part = 13, words = "BEYOND.")
    static void countsBeyond() {
        InstallDesk x = plain(1, 1);
        due("there is none", x.counts(0), BEYOND);
        find(x, 0, 0, 1, 1);
        find(x, 0, 0, 1, 1);
        dueBeyondOutside("find", x::counts, 0, 1);
        due("the last", x.counts(1), 1);
    }

    /** Forty finds: 6 that go and count, 6 that go and do not yet, 12 that quarrel, 16 unread. */
    private static InstallDesk forty() {
        InstallDesk x = plain(2, 1);
        rule(x, 0, 0, 3);
        rule(x, 0, 1, 3);
        int[] letters = {9, 3, 9, 3, 1, 9, 3, 2, 9, 1};
        for (int i = 0; i < 40; i++) {
            find(x, 0, i < 22 ? 0 : 1, 1, letters[i % 10]);
        }
        return x;
    }

    @Says(part = 14, words = "How many FINDS: 0 GO to a product,")
    static void findsThatGo() {
        due("of none", new InstallDesk().finds(0), 0);
        due("of forty", forty().finds(0), 12);
    }

    @Says(part = 14, words = "1 QUARREL,")
    static void findsThatQuarrel() {
        due("of none", new InstallDesk().finds(1), 0);
        due("of forty", forty().finds(1), 12);
        InstallDesk x = forty();
        x.unrule(2);
        due("without a rule", x.finds(1), 0);
        due("they go now", x.finds(0), 24);
    }

    @Says(part = 14, words = "2 are UNREAD,")
    static void findsThatAreUnread() {
        due("of none", new InstallDesk().finds(2), 0);
        InstallDesk x = forty();
        due("of forty", x.finds(2), 16);
        for (int i = 0; i < 4; i++) {
            x.unrule(0);
        }
        due("without rules", x.finds(2), 40);
    }

    @Says(part = 14, words = "3 COUNT.")
    static void findsThatCount() {
        due("of none", new InstallDesk().finds(3), 0);
        InstallDesk x = forty();
        due("of forty", x.finds(3), 6);
        x.today(1);
        due("a day later", x.finds(3), 12);
        x.kept(0);
        due("and none kept", x.finds(3), 6);
        x.today(32);
        due("all too old", x.finds(3), 0);
    }

    @Says(part = 14, words = "BEYOND: another what.")
    static void findsBeyond() {
        dueBeyondOutside("what", forty()::finds, 0, 3);
    }

    @Says(part = 15, words = "A FIND goes;")
    static void dropGoes() {
        InstallDesk x = plain(2, 1);
        find(x, 0, 0, 5, 1);
        find(x, 0, 0, 3, 1);
        find(x, 0, 0, 4, 2);
        x.drop(0);
        dueHeld("the greatest has gone", x, 3, 4);
        x.drop(0);
        dueHeld("both have gone", x, 0, 4);
        due("finds", x.finds(0), 1);
    }

    @Says(part = 15, words = "those behind it have numbers one less:")
    static void dropNumbersOneLess() {
        for (int gone = 0; gone < 40; gone += 13) {
            InstallDesk x = plain(10, 8);
            for (int i = 0; i < 40; i++) {
                find(x, i % 8, i, i % 9 + 1, i % 10 + 1);
            }
            x.drop(gone);
            x.kept(0);
            for (int i = 0; i < 40; i++) {
                int now = i < gone ? i : i - 1;
                if (i != gone) {
                    x.today(i);
                    due("product of " + i, x.goes(now), i % 10);
                    due("day of " + i, x.counts(now), 1);
                    due("host and version of " + i, x.has(i % 8, i % 10), i % 9 + 1);
                }
            }
            due("the last number is free", x.goes(39), BEYOND);
        }
    }

    @Says(part = 15, words = "how many there are.")
    static void dropHowMany() {
        InstallDesk x = plain(1, 1);
        for (int i = 0; i < 40; i++) {
            x.find(0, 0, 1);
        }
        for (int i = 39; i >= 0; i--) {
            due("of " + (i + 1), x.drop(i / 2), i);
        }
        due("a new one is the first", x.find(0, 0, 1), 0);
    }

    @Says(part = 15, words = "BEYOND.")
    static void dropBeyond() {
        InstallDesk x = plain(1, 1);
        due("there is none", x.drop(0), BEYOND);
        find(x, 0, 0, 1, 1);
        find(x, 0, 0, 1, 1);
        dueBeyondOutside("find", x::drop, 0, 1);
        due("both are there", x.finds(0), 2);
        x.drop(1);
        due("the last one has gone", x.drop(1), BEYOND);
    }

    @Says(part = 16, words = "TODAY becomes a day: what it was.")
    static void todayWhatItWas() {
        InstallDesk x = plain(1, 1);
        due("at first", x.today(9999), 0);
        due("the last day", x.today(5000), 9999);
        due("back in time", x.today(0), 5000);
        due("the first day", x.today(0), 0);
    }

    @Says(part = 16, words = "BEYOND.")
    static void todayBeyond() {
        InstallDesk x = new InstallDesk();
        x.today(77);
        dueBeyondOutside("day", x::today, 0, 9999);
        due("it is what it was", x.today(0), 77);
    }

    @Says(part = 17, words = "KEPT becomes so many days: what it was.")
    static void keptWhatItWas() {
        InstallDesk x = new InstallDesk();
        due("at first", x.kept(999), 30);
        due("the most", x.kept(0), 999);
        due("none", x.kept(0), 0);
        due("again", x.kept(1), 0);
    }

    @Says(part = 17, words = "BEYOND.")
    static void keptBeyond() {
        InstallDesk x = new InstallDesk();
        dueBeyondOutside("days", x::kept, 0, 999);
        due("it is what it was", x.kept(0), 30);
    }

    @Says(part = 18, words = "The version with which a host HAS a product.")
    static void hasVersion() {
        InstallDesk x = plain(5, 8);
        for (int host = 0; host < 8; host++) {
            for (int product = 0; product < 5; product++) {
                find(x, host, 0, (host + product) % 9 + 1, product + 1);
            }
        }
        for (int host = 0; host < 8; host++) {
            for (int product = 0; product < 5; product++) {
                int want = (host + product) % 9 + 1;
                due("has(" + host + ", " + product + ")", x.has(host, product), want);
            }
        }
    }

    @Says(part = 18, words = "BEYOND: no such host,")
    static void hasBeyondHost() {
        InstallDesk x = plain(1, 0);
        due("there is none", x.has(0, 0), BEYOND);
        x.host(1, 0);
        x.host(1, 0);
        dueBeyondOutside("host", host -> x.has(host, 0), 0, 1);
        due("the last", x.has(1, 0), NONE);
    }

    @Says(part = 18, words = "or product.")
    static void hasBeyondProduct() {
        InstallDesk x = plain(0, 1);
        due("there is none", x.has(0, 0), BEYOND);
        x.product(PRODUCT, 0, 0);
        x.product(PRODUCT, 0, 0);
        dueBeyondOutside("product", product -> x.has(0, product), 0, 1);
        due("the last", x.has(0, 1), NONE);
    }

    @Says(part = 18, words = "NONE: it does not.")
    static void hasNone() {
        InstallDesk x = plain(2, 2);
        due("nothing is found", x.has(0, 0), NONE);
        find(x, 1, 0, 1, 1);
        due("found elsewhere", x.has(0, 0), NONE);
        find(x, 0, 0, 1, 2);
        due("another is found", x.has(0, 0), NONE);
        find(x, 0, 1, 1, 1);
        due("found tomorrow", x.has(0, 0), NONE);
        x.today(1);
        due("found today", x.has(0, 0), 1);
        x.product(SUITE, 1, 1);
        due("taken by a suite", x.has(0, 0), NONE);
    }

    @Says(part = 19, words = "How a product COUNTS by a MEASURE.")
    static void measureOfOne() {
        InstallDesk x = ofKinds(new int[] {PRODUCT, 0, 0}, new int[] {FREE, 0, 0});
        x.host(9, 0);
        x.host(17, 1);
        for (int host = 0; host < 3; host++) {
            find(x, host, 0, 1, 1);
        }
        find(x, 1, 0, 1, 2);
        for (int i = 0; i < 4; i++) {
            x.use(0, 0, 5, 6 + i);
        }
        x.use(0, 1, 5, 6);
        int[] wants = {3, 2, 1 + 2 + 3, 4};
        int[] frees = {1, 1, 2, 1};
        for (int measure = 0; measure <= 3; measure++) {
            due("measure(0, " + measure + ")", x.measure(0, measure), wants[measure]);
            due("of what is free", x.measure(1, measure), frees[measure]);
        }
    }

    @Says(part = 19, words = "BEYOND: no such product,")
    static void measureBeyondProduct() {
        InstallDesk x = plain(0, 1);
        due("there is none", x.measure(0, 0), BEYOND);
        x.product(PRODUCT, 0, 0);
        x.product(PRODUCT, 0, 0);
        for (int measure = 0; measure <= 3; measure++) {
            int by = measure;
            dueBeyondOutside("product", product -> x.measure(product, by), 0, 1);
            due("the last", x.measure(1, measure), 0);
        }
    }

    @Says(part = 19, words = "or MEASURE.")
    static void measureBeyondMeasure() {
        InstallDesk x = plain(1, 1);
        dueBeyondOutside("measure", measure -> x.measure(0, measure), 0, 3);
    }

    @Says(part = 20, words = "Of all products what they COUNT by a MEASURE, together.")
    static void allTogether() {
        InstallDesk x = ofKinds(new int[] {PRODUCT, 0, 0}, new int[] {FREE, 0, 0},
            new int[] {PARTED, 1, 1});
        for (int measure = 0; measure <= 3; measure++) {
            due("of nothing", x.all(measure), 0);
        }
        x.host(20, 0);
        find(x, 0, 0, 1, 1);
        find(x, 1, 0, 1, 1);
        find(x, 1, 0, 1, 2);
        x.use(0, 0, 0, 9);
        x.use(0, 0, 8, 10);
        x.use(0, 1, 100, 109);
        due("hosts", x.all(0), 2 + 1 + 2);
        due("persons, one for each product", x.all(1), 1 + 1 + 1);
        due("cores", x.all(2), 4 + 3 + 4);
        due("uses, each product's most", x.all(3), 2 + 1);
        due("the most hosts", eighty().all(0), 80);
        due("of one person", eighty().all(1), 10);
    }

    @Says(part = 20, words = "Of all products what they COUNT by a MEASURE, together.")
    static void allOfNoProducts() {
        InstallDesk x = new InstallDesk();
        for (int measure = 0; measure <= 3; measure++) {
            due("all(" + measure + ")", x.all(measure), 0);
        }
    }

    @Says(part = 20, words = "BEYOND.")
    static void allBeyond() {
        dueBeyondOutside("measure", new InstallDesk()::all, 0, 3);
        dueBeyondOutside("measure", eighty()::all, 0, 3);
    }
}
