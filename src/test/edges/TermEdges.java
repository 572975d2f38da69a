import java.util.LinkedHashMap;
import java.util.Map;
import java.util.function.ToIntFunction;

/** The sentences of the document's terms. */
final class TermEdges extends Check {

    // ---- findings

    @Says(part = 0, words = "FINDINGS are the answers below 0: BEYOND -1, NONE -2, FULL -3, KIND -4, "
        + "QUARREL -5, UNREAD -6, SIZE -7.")
    static void findingsHaveTheirNumbers() {
        InstallDesk x = plain(2, 1);
        due("BEYOND", x.letter(0), -1);
        due("NONE", x.back(), -2);
        for (int i = 1; i < 8; i++) {
            x.host(1, 0);
        }
        due("FULL", x.host(1, 0), -3);
        due("KIND", x.as(0, SUITE), -4);
        rule(x, 0, 1, 1);
        find(x, 0, 0, 1, 1);
        due("QUARREL", x.goes(0), -5);
        find(x, 0, 0, 1, 9);
        due("UNREAD", x.goes(1), -6);
        due("SIZE", find(x, 0, 0, 1, 27), -7);
    }

    @Says(part = 0, words = "Each act tells its findings in the order in which they are asked;")
    static void beyondIsToldAheadOfFull() {
        InstallDesk x = full();
        due("letter", x.letter(29), BEYOND);
        due("letter", x.letter(1), FULL);
        due("product", x.product(4, 0, 1), BEYOND);
        due("product of wrong parts", x.product(SUITE, 1024, 1), BEYOND);
        due("product", x.product(PRODUCT, 0, 1), FULL);
        due("rule of a wrong product", x.rule(0, 10), BEYOND);
        due("rule of a wrong rank", x.rule(10, 0), BEYOND);
        due("rule", x.rule(0, 0), FULL);
        due("host", x.host(65, 0), BEYOND);
        due("host of a wrong person", x.host(1, 10), BEYOND);
        due("host", x.host(1, 0), FULL);
        due("find", x.find(8, 0, 1), BEYOND);
        due("find of a wrong version", x.find(0, 0, 10), BEYOND);
        due("find", x.find(0, 0, 1), FULL);
        due("use", x.use(10, 0, 0, 1), BEYOND);
        due("use of wrong ticks", x.use(0, 0, 1, 1), BEYOND);
        due("use", x.use(0, 0, 0, 1), FULL);
        due("right", x.right(10, 1, 0, 0, 0, 0), BEYOND);
        due("right of a wrong price", x.right(0, 1, 0, 1001, 0, 0), BEYOND);
        due("right of wrong days", x.right(0, 1, 0, 0, 1, 0), BEYOND);
        due("right", x.right(0, 1, 0, 0, 0, 0), FULL);
    }

    @Says(part = 0, words = "Each act tells its findings in the order in which they are asked;")
    static void sizeIsToldLast() {
        InstallDesk x = plain(1, 1);
        spell(x, 28, 1);
        due("rule of a wrong rank and no pattern", x.rule(10, 0), BEYOND);
        due("rule of a wrong product and no pattern", x.rule(0, 1), BEYOND);
        due("find on a wrong host and no name", x.find(1, 0, 1), BEYOND);
        due("find of a wrong day and no name", x.find(0, -1, 1), BEYOND);
        due("a rule of no pattern", x.rule(0, 0), SIZE);
        for (int i = 1; i < 16; i++) {
            x.rule(0, 0);
        }
        for (int i = 0; i < 40; i++) {
            x.find(0, 0, 1);
        }
        spell(x, 28, 1);
        due("one rule too many and no pattern", x.rule(0, 0), FULL);
        due("one find too many and no name", x.find(0, 0, 1), FULL);
    }

    @Says(part = 0, words = "Each act tells its findings in the order in which they are asked;")
    static void beyondIsToldAheadOfTheRest() {
        InstallDesk x = plain(1, 1);
        due("as no product, of no kind", x.as(1, PARTED), BEYOND);
        due("as no kind", x.as(0, 4), BEYOND);
        due("what is not there has nothing", x.has(1, 0), BEYOND);
        due("what is not there is not had", x.has(0, 1), BEYOND);
        x.right(0, 1, 1, 1, 0, 0);
        due("a host that is not there", x.may(0, 1), BEYOND);
        due("no such right", x.may(1, 0), BEYOND);
        due("no such product, and no use of it", x.peak(1), BEYOND);
        due("no such number, and no such day", x.when(81), BEYOND);
    }

    /** Some of each thing, kept, and then changed, so that what is kept is unlike what stands. */
    private static InstallDesk some() {
        InstallDesk x = ofKinds(new int[] {PRODUCT, 0, 0}, new int[] {FREE, 0, 0},
            new int[] {SUITE, 0b11, 2});
        x.host(9, 2);
        find(x, 0, 5, 3, 1);
        find(x, 0, 6, 4, 2);
        find(x, 1, 5, 2, 1);
        x.use(1, 0, 2, 6);
        x.right(0, 5, 2, 10, 0, 8);
        x.today(6);
        x.keep();
        rule(x, 0, 2, 4, 28);
        rule(x, 0, 0, 4, 27);
        find(x, 1, 6, 9, 4, 4);
        x.moved(1, 7);
        x.use(2, 2, 5, 7);
        x.right(2, 4, 1, 3, 6, 6);
        x.kept(20);
        spell(x, 1);
        return x;
    }

    private static Map<String, ToIntFunction<InstallDesk>> refusedMaking() {
        Map<String, ToIntFunction<InstallDesk>> acts = new LinkedHashMap<>();
        acts.put("letter(0)", x -> x.letter(0));
        acts.put("letter(29)", x -> x.letter(29));
        acts.put("product(4, 0, 1)", x -> x.product(4, 0, 1));
        acts.put("product(1, 1024, 1)", x -> x.product(1, 1024, 1));
        acts.put("product(3, 1, 11)", x -> x.product(3, 1, 11));
        acts.put("rule(10, 0)", x -> x.rule(10, 0));
        acts.put("rule(0, 3)", x -> x.rule(0, 3));
        acts.put("host(0, 0)", x -> x.host(0, 0));
        acts.put("host(1, 10)", x -> x.host(1, 10));
        acts.put("find(2, 0, 1)", x -> x.find(2, 0, 1));
        acts.put("find(0, 10000, 1)", x -> x.find(0, 10000, 1));
        acts.put("find(0, 0, 10)", x -> x.find(0, 0, 10));
        acts.put("use(10, 0, 0, 1)", x -> x.use(10, 0, 0, 1));
        acts.put("use(0, 3, 0, 1)", x -> x.use(0, 3, 0, 1));
        acts.put("use(0, 0, 1, 1)", x -> x.use(0, 0, 1, 1));
        acts.put("use(0, 0, 0, 1000)", x -> x.use(0, 0, 0, 1000));
        acts.put("right(3, 1, 1, 1, 0, 9)", x -> x.right(3, 1, 1, 1, 0, 9));
        acts.put("right(0, 10, 1, 1, 0, 9)", x -> x.right(0, 10, 1, 1, 0, 9));
        acts.put("right(0, 1, 41, 1, 0, 9)", x -> x.right(0, 1, 41, 1, 0, 9));
        acts.put("right(0, 1, 1, 1001, 0, 9)", x -> x.right(0, 1, 1, 1001, 0, 9));
        acts.put("right(0, 1, 1, 1, 9, 8)", x -> x.right(0, 1, 1, 1, 9, 8));
        return acts;
    }

    private static Map<String, ToIntFunction<InstallDesk>> refusedChanging() {
        Map<String, ToIntFunction<InstallDesk>> acts = new LinkedHashMap<>();
        acts.put("unrule(-1)", x -> x.unrule(-1));
        acts.put("unrule(5)", x -> x.unrule(5));
        acts.put("moved(2, 0)", x -> x.moved(2, 0));
        acts.put("moved(0, 10)", x -> x.moved(0, 10));
        acts.put("moved(1, -1)", x -> x.moved(1, -1));
        acts.put("drop(-1)", x -> x.drop(-1));
        acts.put("drop(4)", x -> x.drop(4));
        acts.put("today(-1)", x -> x.today(-1));
        acts.put("today(10000)", x -> x.today(10000));
        acts.put("kept(-1)", x -> x.kept(-1));
        acts.put("kept(1000)", x -> x.kept(1000));
        acts.put("amount(2, 0)", x -> x.amount(2, 0));
        acts.put("amount(0, 41)", x -> x.amount(0, 41));
        acts.put("amount(1, -1)", x -> x.amount(1, -1));
        return acts;
    }

    private static Map<String, ToIntFunction<InstallDesk>> refusedAsking() {
        Map<String, ToIntFunction<InstallDesk>> acts = new LinkedHashMap<>();
        acts.put("as(3, 0)", x -> x.as(3, 0));
        acts.put("as(0, 3)", x -> x.as(0, 3));
        acts.put("fits(5, 0)", x -> x.fits(5, 0));
        acts.put("fits(0, 4)", x -> x.fits(0, 4));
        acts.put("goes(3)", x -> x.goes(3));
        acts.put("goes(4)", x -> x.goes(4));
        acts.put("by(4)", x -> x.by(4));
        acts.put("counts(4)", x -> x.counts(4));
        acts.put("finds(4)", x -> x.finds(4));
        acts.put("has(2, 0)", x -> x.has(2, 0));
        acts.put("has(0, 0)", x -> x.has(0, 0));
        acts.put("measure(3, 0)", x -> x.measure(3, 0));
        acts.put("measure(0, 4)", x -> x.measure(0, 4));
        acts.put("all(4)", x -> x.all(4));
        acts.put("at(3, 0)", x -> x.at(3, 0));
        acts.put("at(0, 1000)", x -> x.at(0, 1000));
        acts.put("peak(3)", x -> x.peak(3));
        acts.put("peak(1)", x -> x.peak(1));
        acts.put("may(2, 0)", x -> x.may(2, 0));
        acts.put("may(0, 0)", x -> x.may(0, 0));
        acts.put("of(3, true)", x -> x.of(3, true));
        acts.put("without(2)", x -> x.without(2));
        acts.put("spared(2)", x -> x.spared(2));
        acts.put("when(81)", x -> x.when(81));
        acts.put("when(80)", x -> x.when(80));
        acts.put("told(7)", x -> x.told(7));
        return acts;
    }

    private static void dueRefused(Map<String, ToIntFunction<InstallDesk>> acts) {
        String untouched = Picture.of(some());
        for (Map.Entry<String, ToIntFunction<InstallDesk>> act : acts.entrySet()) {
            InstallDesk x = some();
            due(act.getKey() + " below 0", act.getValue().applyAsInt(x) < 0 ? 1 : 0, 1);
            due("told(5) after " + act.getKey(), x.told(5), 1);
            due("the desk after " + act.getKey(), Picture.of(x), untouched);
        }
    }

    @Says(part = 0, words = "an act that answers a finding changes nothing, but where told.")
    static void refusedMakingChangesNothing() {
        dueRefused(refusedMaking());
    }

    @Says(part = 0, words = "an act that answers a finding changes nothing, but where told.")
    static void refusedChangingChangesNothing() {
        dueRefused(refusedChanging());
    }

    @Says(part = 0, words = "an act that answers a finding changes nothing, but where told.")
    static void refusedAskingChangesNothing() {
        dueRefused(refusedAsking());
    }

    @Says(part = 0, words = "an act that answers a finding changes nothing, but where told.")
    static void oneTooManyChangesNothing() {
        Map<String, ToIntFunction<InstallDesk>> acts = new LinkedHashMap<>();
        acts.put("letter", x -> x.letter(9));
        acts.put("product", x -> x.product(FREE, 1, 1));
        acts.put("rule", x -> x.rule(0, 0));
        acts.put("host", x -> x.host(33, 3));
        acts.put("find", x -> x.find(0, 5, 5));
        acts.put("use", x -> x.use(0, 0, 5, 500));
        acts.put("right", x -> x.right(0, 1, 40, 1000, 0, 5000));
        String untouched = Picture.of(full());
        for (Map.Entry<String, ToIntFunction<InstallDesk>> act : acts.entrySet()) {
            InstallDesk x = full();
            due(act.getKey(), act.getValue().applyAsInt(x), FULL);
            due("told(5) after one too many: " + act.getKey(), x.told(5), 1);
            due("the desk after one too many: " + act.getKey(), Picture.of(x), untouched);
        }
    }

    @Says(part = 0, words = "an act that answers a finding changes nothing, but where told.")
    static void sizeChangesTheLettersAlone() {
        InstallDesk x = some();
        x.letter(28);
        x.letter(1);
        due("rule", x.rule(0, 0), SIZE);
        due("told(5) after a rule of no pattern", x.told(5), 1);
        x.letter(1);
        due("the desk after a rule of no pattern", Picture.of(x), Picture.of(some()));
        InstallDesk y = some();
        y.letter(27);
        due("find", y.find(0, 0, 1), SIZE);
        due("told(5) after a find of no name", y.told(5), 1);
        y.letter(1);
        due("the desk after a find of no name", Picture.of(y), Picture.of(some()));
    }

    // ---- names, patterns, letters

    @Says(part = 0, words = "A NAME is a row of 0 to 12 letters (numbers 1 to 26).")
    static void namesOfNoneAndOfTwelveLetters() {
        InstallDesk x = plain(1, 1);
        due("of no letters", x.find(0, 0, 1), 0);
        due("of twelve", find(x, 0, 0, 1, TWELVE), 1);
        for (int letter = 1; letter <= 26; letter++) {
            due("of letter " + letter, find(x, 0, 0, 1, letter), letter + 1);
        }
        due("27 is no letter", find(x, 0, 0, 1, 27), SIZE);
        due("28 is no letter", find(x, 0, 0, 1, 28), SIZE);
    }

    @Says(part = 0, words = "A PATTERN is a row of 0 to 12 signs:")
    static void patternsOfNoneAndOfTwelveSigns() {
        InstallDesk x = new InstallDesk();
        x.product(PRODUCT, 0, 0);
        x.host(1, 0);
        due("of no signs", x.rule(0, 0), 0);
        due("of twelve", rule(x, 0, 0, TWELVE), 1);
        x.find(0, 0, 1);
        find(x, 0, 0, 1, TWELVE);
        find(x, 0, 0, 1, 1, 2, 3, 4, 5, 6, 7, 8, 9, 10, 11);
        find(x, 0, 0, 1, 1, 2, 3, 4, 5, 6, 7, 8, 9, 10, 11, 25);
        due("none fits none", x.fits(0, 0), 1);
        due("none does not fit twelve", x.fits(0, 1), 0);
        due("twelve do not fit none", x.fits(1, 0), 0);
        due("twelve fit twelve", x.fits(1, 1), 1);
        due("twelve do not fit eleven", x.fits(1, 2), 0);
        due("an unlike twelfth", x.fits(1, 3), 0);
    }

    @Says(part = 0, words = "a letter,")
    static void aLetterFitsItselfAlone() {
        InstallDesk x = new InstallDesk();
        x.product(PRODUCT, 0, 0);
        x.host(1, 0);
        rule(x, 0, 0, 1);
        rule(x, 0, 0, 26);
        for (int letter = 1; letter <= 26; letter++) {
            find(x, 0, 0, 1, letter);
            due("1 and " + letter, x.fits(0, letter - 1), letter == 1 ? 1 : 0);
            due("26 and " + letter, x.fits(1, letter - 1), letter == 26 ? 1 : 0);
        }
        due("1 and none", x.fits(0, x.find(0, 0, 1)), 0);
        due("1 and 1 1", x.fits(0, find(x, 0, 0, 1, 1, 1)), 0);
    }

    @Says(part = 0, words = "27 (any one letter),")
    static void anyOneLetter() {
        InstallDesk x = new InstallDesk();
        x.product(PRODUCT, 0, 0);
        x.host(1, 0);
        rule(x, 0, 0, 27);
        rule(x, 0, 0, 27, 2);
        rule(x, 0, 0, 27, 27, 27, 27, 27, 27, 27, 27, 27, 27, 27, 27);
        due("none", x.fits(0, x.find(0, 0, 1)), 0);
        due("1", x.fits(0, find(x, 0, 0, 1, 1)), 1);
        due("26", x.fits(0, find(x, 0, 0, 1, 26)), 1);
        due("1 2", x.fits(0, find(x, 0, 0, 1, 1, 2)), 0);
        due("27 2 and 1 2", x.fits(1, 3), 1);
        due("27 2 and 1", x.fits(1, 1), 0);
        due("27 2 and 2", x.fits(1, find(x, 0, 0, 1, 2)), 0);
        due("27 2 and 1 3", x.fits(1, find(x, 0, 0, 1, 1, 3)), 0);
        due("twelve and twelve", x.fits(2, find(x, 0, 0, 1, TWELVE)), 1);
        due("twelve and eleven", x.fits(2, find(x, 0, 0, 1, 1, 2, 3, 4, 5, 6, 7, 8, 9, 1, 1)), 0);
    }

    @Says(part = 0, words = "28 (any letters, also none; behind it there is nothing).")
    static void anyLettersAlsoNone() {
        InstallDesk x = new InstallDesk();
        x.product(PRODUCT, 0, 0);
        x.host(1, 0);
        rule(x, 0, 0, 28);
        rule(x, 0, 0, 1, 28);
        rule(x, 0, 0, 1, 2, 3, 4, 5, 6, 7, 8, 9, 10, 11, 28);
        x.find(0, 0, 1);
        find(x, 0, 0, 1, 1);
        find(x, 0, 0, 1, 2);
        find(x, 0, 0, 1, 1, 2, 3, 4, 5, 6, 7, 8, 9, 10, 11);
        find(x, 0, 0, 1, TWELVE);
        find(x, 0, 0, 1, 1, 2, 3, 4, 5, 6, 7, 8, 9, 10);
        String[] want = {"111111", "010111", "000110"};
        for (int rule = 0; rule < 3; rule++) {
            for (int find = 0; find < 6; find++) {
                due(rule + " and " + find, x.fits(rule, find), want[rule].charAt(find) - '0');
            }
        }
    }

    @Says(part = 0, words = "28 (any letters, also none; behind it there is nothing).")
    static void behindAnyLettersThereIsNothing() {
        InstallDesk x = plain(1, 1);
        due("a letter behind it", rule(x, 0, 0, 28, 1), SIZE);
        due("any one letter behind it", rule(x, 0, 0, 28, 27), SIZE);
        due("itself behind it", rule(x, 0, 0, 28, 28), SIZE);
        due("a twelfth behind it", rule(x, 0, 0, 1, 2, 3, 4, 5, 6, 7, 8, 9, 10, 28, 1), SIZE);
        due("nothing behind it", rule(x, 0, 0, 28), 1);
        due("nothing behind it, the twelfth", rule(x, 0, 0, 1, 2, 3, 4, 5, 6, 7, 8, 9, 1, 1, 28), 2);
    }

    @Says(part = 0, words = "LETTERS wait till they are a NAME or a PATTERN.")
    static void lettersWaitThroughAllOtherActs() {
        InstallDesk x = plain(1, 1);
        spell(x, 1);
        x.product(PRODUCT, 0, 0);
        x.host(1, 1);
        x.use(0, 0, 0, 1);
        x.right(0, 1, 1, 1, 0, 1);
        x.moved(0, 3);
        x.today(1);
        x.kept(1);
        x.keep();
        x.back();
        x.lack();
        due("one waits", x.told(6), 1);
        due("a second one", x.letter(2), 2);
        due("they are a name", x.find(0, 1, 1), 0);
        due("none waits", x.told(6), 0);
        due("the next is the first", x.letter(1), 1);
        x.letter(2);
        due("they are a pattern", x.rule(0, 1), 1);
        due("none waits", x.told(6), 0);
        due("which fits the name", x.fits(1, 0), 1);
    }

    // ---- products, rules

    @Says(part = 0, words = "PRODUCTS 0, 1, .. (at most 10)")
    static void tenProducts() {
        InstallDesk x = new InstallDesk();
        for (int i = 0; i < 10; i++) {
            due("product no. " + i, x.product(i % 4, 0, 1), i);
        }
        due("an eleventh", x.product(PRODUCT, 0, 0), FULL);
        due("the last", x.as(9, SUITE), 9);
        due("none behind it", x.as(10, PRODUCT), BEYOND);
    }

    @Says(part = 0, words = "are of a kind: 0 PRODUCT, 1 SUITE under it, 2 FREE under PRODUCT, "
        + "3 PARTED under SUITE.")
    static void kindsUnderKinds() {
        InstallDesk x = new InstallDesk();
        for (int kind = 0; kind <= 3; kind++) {
            x.product(kind, 0, 1);
        }
        String[] fine = {"1000", "1100", "1010", "1101"};
        for (int product = 0; product < 4; product++) {
            for (int kind = 0; kind < 4; kind++) {
                int want = fine[product].charAt(kind) == '1' ? product : KIND;
                due("as(" + product + ", " + kind + ")", x.as(product, kind), want);
            }
        }
    }

    @Says(part = 0, words = "A SUITE (PARTED, too) has PARTS, a set of products (bit k for product k), "
        + "and a LEAST (1 to 10).")
    static void bitKIsProductK() {
        for (int kind = SUITE; kind <= PARTED; kind += 2) {
            for (int k = 0; k < 9; k++) {
                InstallDesk x = plain(9, 1);
                x.product(kind, 1 << k, 1);
                find(x, 0, 0, 4, k + 1);
                due("of bit " + k, x.has(0, 9), 4);
                x.drop(0);
                find(x, 0, 0, 4, (k + 1) % 9 + 1);
                due("of another bit than " + k, x.has(0, 9), NONE);
            }
        }
        InstallDesk y = ofKinds(new int[] {SUITE, 1 << 9, 1});
        for (int i = 1; i < 10; i++) {
            y.product(PRODUCT, 0, 0);
        }
        rule(y, 0, 9, 2);
        find(y, 0, 0, 4, 2);
        due("of bit 9", y.has(0, 0), 4);
        due("no bits", y.has(0, 1), NONE);
    }

    @Says(part = 0, words = "A SUITE (PARTED, too) has PARTS, a set of products (bit k for product k), "
        + "and a LEAST (1 to 10).")
    static void leastOfOneToTen() {
        for (int least = 1; least <= 10; least++) {
            InstallDesk x = plain(9, 1);
            due("least " + least, x.product(PARTED, 1023, least), 9);
            for (int had = 1; had <= 9; had++) {
                find(x, 0, 0, 1, had);
                due(had + " had of least " + least, x.has(0, 9), had >= least ? 1 : NONE);
            }
        }
    }

    @Says(part = 0, words = "RULES 0, 1, .. (at most 16) have a PATTERN, a RANK (0 to 9), a product.")
    static void sixteenRulesOfTenRanks() {
        InstallDesk x = new InstallDesk();
        for (int i = 0; i < 10; i++) {
            x.product(PRODUCT, 0, 0);
        }
        x.host(1, 0);
        x.find(0, 0, 1);
        for (int i = 0; i < 10; i++) {
            due("rule of rank " + (9 - i), rule(x, 9 - i, i, 28), i);
            due("a less rank leads on", x.goes(0), i);
        }
        for (int i = 10; i < 16; i++) {
            due("rule no. " + i, rule(x, 9, 0, i), i);
        }
        due("a seventeenth", x.rule(0, 0), FULL);
        due("the last one's pattern", x.fits(15, find(x, 0, 0, 1, 15)), 1);
    }

    @Says(part = 0, words = "A NAME GOES to a product, if of all rules whose PATTERN fits it those of "
        + "the least RANK tell that one;")
    static void theLeastRankOfThoseThatFit() {
        InstallDesk x = plain(4, 1);
        rule(x, 3, 1, 9, 28);
        rule(x, 2, 2, 9, 27);
        rule(x, 2, 2, 9, 9, 28);
        rule(x, 0, 3, 8);
        find(x, 0, 0, 1, 9, 9);
        find(x, 0, 0, 1, 9);
        due("two of a less rank tell the same", x.goes(0), 2);
        due("only one fits", x.goes(1), 1);
        rule(x, 1, 3, 9, 9);
        due("a still less rank", x.goes(0), 3);
        rule(x, 9, 0, 28);
        due("a greater rank tells nothing", x.goes(0), 3);
    }

    @Says(part = 0, words = "it QUARRELS if they tell unlike ones;")
    static void unlikeOnesOfOneRank() {
        InstallDesk x = new InstallDesk();
        x.product(PRODUCT, 0, 0);
        x.product(PRODUCT, 0, 0);
        x.host(1, 0);
        x.find(0, 0, 1);
        rule(x, 4, 0, 28);
        due("one", x.goes(0), 0);
        rule(x, 4, 0, 28);
        due("two that are alike", x.goes(0), 0);
        rule(x, 5, 1, 28);
        due("an unlike one of a greater rank", x.goes(0), 0);
        rule(x, 4, 1, 1, 28);
        due("an unlike one that does not fit", x.goes(0), 0);
        rule(x, 4, 1, 28);
        due("an unlike one", x.goes(0), QUARREL);
        rule(x, 3, 1, 28);
        due("one of a less rank", x.goes(0), 1);
    }

    @Says(part = 0, words = "it is UNREAD if none fits.")
    static void unreadIfNoneFits() {
        InstallDesk x = plain(1, 1);
        due("no rule fits", x.goes(find(x, 0, 0, 1, 2)), UNREAD);
        x.unrule(0);
        due("there is no rule", x.goes(find(x, 0, 0, 1, 1)), UNREAD);
    }

    // ---- hosts, finds

    @Says(part = 0, words = "HOSTS 0, 1, .. (at most 8) have CORES (1 to 64) and a person (0 to 9).")
    static void eightHosts() {
        InstallDesk x = plain(1, 0);
        int[] cores = {1, 64, 1, 64, 8, 8, 8, 8};
        int[] persons = {0, 0, 9, 9, 1, 2, 3, 4};
        for (int i = 0; i < 8; i++) {
            due("host no. " + i, x.host(cores[i], persons[i]), i);
        }
        due("a ninth", x.host(1, 0), FULL);
        for (int i = 0; i < 8; i++) {
            find(x, i, 0, 1, 1);
            due("cores of host " + i, x.measure(0, 2), (cores[i] + 7) / 8);
            due("person of host " + i, x.moved(i, 5), persons[i]);
            x.drop(0);
        }
    }

    @Says(part = 0, words = "FINDS 0, 1, .. (at most 40) have a NAME, a host, a day (0 to 9999), "
        + "a version (1 to 9).")
    static void fortyFinds() {
        InstallDesk x = plain(1, 8);
        for (int i = 0; i < 40; i++) {
            due("find no. " + i, find(x, i % 8, i < 39 ? 0 : 9999, i % 9 + 1, i < 39 ? 2 : 1), i);
        }
        due("a forty-first", x.find(0, 0, 1), FULL);
        due("a day of 0", x.counts(0), 0);
        due("the last one's name", x.fits(0, 39), 1);
        x.today(9999);
        due("the last one's host and version", x.has(7, 0), 4);
        x.kept(0);
        due("the last one's day", x.counts(39), 1);
    }

    @Says(part = 0, words = "FINDS 0, 1, .. (at most 40) have a NAME, a host, a day (0 to 9999), "
        + "a version (1 to 9).")
    static void leastAndGreatestOfAFind() {
        InstallDesk x = plain(2, 1);
        find(x, 0, 0, 1, 1);
        find(x, 0, 0, 9, 2);
        due("version 1", x.has(0, 0), 1);
        due("version 9", x.has(0, 1), 9);
        find(x, 0, 9999, 2, 1);
        x.today(9998);
        due("ahead of day 9999", x.counts(2), 0);
        x.today(9999);
        due("on day 9999", x.counts(2), 1);
    }

    @Says(part = 0, words = "TODAY is a day (0 at first), KEPT a number of days (0 to 999; 30 at first).")
    static void todayAndKeptAtFirst() {
        InstallDesk x = plain(1, 1);
        find(x, 0, 0, 1, 1);
        find(x, 0, 1, 1, 1);
        due("day 0 counts on day 0", x.counts(0), 1);
        due("day 1 does not", x.counts(1), 0);
        x.today(30);
        due("30 days are kept", x.counts(0), 1);
        x.today(31);
        due("31 are not", x.counts(0), 0);
        due("KEPT at first", x.kept(999), 30);
        x.today(999);
        due("999 days are kept", x.counts(0), 1);
        x.today(1000);
        due("1000 are not", x.counts(0), 0);
        due("KEPT at most", x.kept(0), 999);
        x.today(0);
        due("0 days are kept", x.counts(0), 1);
        x.today(1);
        due("1 is not", x.counts(0), 0);
        due("KEPT at least", x.kept(0), 0);
    }

    @Says(part = 0, words = "A FIND COUNTS when its NAME GOES to a product,")
    static void countsIfItGoes() {
        InstallDesk x = plain(2, 1);
        rule(x, 0, 0, 9);
        rule(x, 0, 1, 9);
        due("it goes", x.counts(find(x, 0, 0, 1, 1)), 1);
        due("it quarrels", x.counts(find(x, 0, 0, 1, 9)), 0);
        due("it is unread", x.counts(find(x, 0, 0, 1, 8)), 0);
        rule(x, 0, 0, 8);
        due("it goes now", x.counts(2), 1);
    }

    @Says(part = 0, words = "and its day is TODAY at most,")
    static void countsUpToToday() {
        InstallDesk x = plain(1, 1);
        x.today(50);
        due("a day ago", x.counts(find(x, 0, 49, 1, 1)), 1);
        due("today", x.counts(find(x, 0, 50, 1, 1)), 1);
        due("tomorrow", x.counts(find(x, 0, 51, 1, 1)), 0);
    }

    @Says(part = 0, words = "and TODAY less KEPT at least.")
    static void countsFromTodayLessKeptOn() {
        InstallDesk x = plain(1, 1);
        x.today(50);
        x.kept(20);
        due("19 days ago", x.counts(find(x, 0, 31, 1, 1)), 1);
        due("20 days ago", x.counts(find(x, 0, 30, 1, 1)), 1);
        due("21 days ago", x.counts(find(x, 0, 29, 1, 1)), 0);
        x.kept(50);
        due("back to day 0", x.counts(find(x, 0, 0, 1, 1)), 1);
        x.kept(999);
        due("back beyond day 0", x.counts(3), 1);
        x.today(9999);
        due("10 times as long", x.counts(3), 0);
    }

    @Says(part = 0, words = "A host HAS a product with the greatest version of the FINDS there that "
        + "COUNT and GO to it.")
    static void theGreatestVersionOfThoseThatCount() {
        InstallDesk x = plain(2, 2);
        x.today(40);
        dueHeld("no finds", x, 0, 0);
        find(x, 0, 40, 4, 1);
        find(x, 0, 40, 6, 1);
        find(x, 0, 40, 5, 1);
        dueHeld("the greatest, not the last", x, 6, 0);
        find(x, 0, 9, 7, 1);
        find(x, 0, 41, 8, 1);
        dueHeld("only those that count", x, 6, 0);
        find(x, 1, 40, 9, 1);
        dueHeld("only those there", x, 6, 0);
        find(x, 0, 40, 9, 2);
        dueHeld("only those that go to it", x, 6, 9);
    }

    // ---- suites

    private static final int[] PLAIN = {PRODUCT, 0, 0};

    @Says(part = 0, words = "Then SUITES, by products' numbers:")
    static void suitesByNumbers() {
        InstallDesk x = ofKinds(PLAIN, new int[] {SUITE, 0b1, 1}, new int[] {SUITE, 0b1, 1});
        find(x, 0, 0, 3, 1);
        dueHeld("the first takes the part", x, 0, 3, 0);
        InstallDesk y = ofKinds(new int[] {SUITE, 0b10, 1}, new int[] {SUITE, 0b100, 1}, PLAIN);
        find(y, 0, 0, 3, 3);
        dueHeld("a part that is made later is no part yet", y, 0, 3, 0);
        InstallDesk z = ofKinds(PLAIN, new int[] {SUITE, 0b1, 1}, new int[] {SUITE, 0b10, 1},
            new int[] {SUITE, 0b100, 1});
        find(z, 0, 0, 3, 1);
        dueHeld("one after another", z, 0, 0, 0, 3);
    }

    @Says(part = 0, words = "a host of which at least LEAST of the PARTS are had")
    static void atLeastSoManyParts() {
        InstallDesk x = ofKinds(PLAIN, PLAIN, PLAIN, PLAIN, new int[] {SUITE, 0b111, 2});
        find(x, 0, 0, 3, 1);
        find(x, 0, 0, 3, 4);
        dueHeld("one, and one that is no part", x, 3, 0, 0, 3, 0);
        find(x, 0, 0, 2, 1);
        dueHeld("one, found twice", x, 3, 0, 0, 3, 0);
        x.host(1, 1);
        find(x, 1, 0, 3, 2);
        dueHeld("one here, one on another host", x, 3, 0, 0, 3, 0);
        find(x, 0, 0, 3, 2);
        dueHeld("two", x, 0, 0, 0, 3, 3);
        find(x, 0, 0, 3, 3);
        dueHeld("three", x, 0, 0, 0, 3, 3);
        due("the other host", x.has(1, 1), 3);
        due("the other host's suite", x.has(1, 4), NONE);
        InstallDesk y = ofKinds(PLAIN, new int[] {SUITE, 0b1, 2}, new int[] {SUITE, 0, 1});
        find(y, 0, 0, 3, 1);
        dueHeld("more than there are parts, and no parts", y, 3, 0, 0);
    }

    @Says(part = 0, words = "(as things stand then, a part that is a SUITE made earlier too)")
    static void asThingsStandThen() {
        InstallDesk x = ofKinds(PLAIN, PLAIN, new int[] {SUITE, 0b1, 1},
            new int[] {SUITE, 0b110, 2});
        find(x, 0, 0, 3, 1);
        dueHeld("the earlier suite alone", x, 0, 0, 3, 0);
        find(x, 0, 0, 2, 2);
        dueHeld("with the earlier suite", x, 0, 0, 0, 3);
        InstallDesk y = ofKinds(PLAIN, PLAIN, new int[] {SUITE, 0b1, 1},
            new int[] {PARTED, 0b11, 2});
        find(y, 0, 0, 3, 1);
        find(y, 0, 0, 3, 2);
        dueHeld("a part that an earlier suite took", y, 0, 3, 3, 0);
        InstallDesk z = ofKinds(new int[] {SUITE, 0b10, 1}, new int[] {SUITE, 0b100, 1}, PLAIN);
        find(z, 0, 0, 5, 2);
        dueHeld("a later suite that was found", z, 5, 0, 0);
    }

    @Says(part = 0, words = "HAS the SUITE with the greatest version of those parts")
    static void theGreatestVersionOfTheParts() {
        int[][] versions = {{2, 7, 5}, {7, 5, 2}, {5, 2, 7}};
        for (int[] v : versions) {
            InstallDesk x = ofKinds(PLAIN, PLAIN, PLAIN, PLAIN, new int[] {SUITE, 0b111, 2});
            for (int i = 0; i < 3; i++) {
                find(x, 0, 0, v[i], i + 1);
            }
            find(x, 0, 0, 9, 4);
            dueHeld("of three parts", x, 0, 0, 0, 9, 7);
        }
    }

    @Says(part = 0, words = "(if it has it already, with the greater one);")
    static void hadAlready() {
        int[][] runs = {{3, 7, 7}, {7, 3, 7}, {5, 5, 5}, {1, 9, 9}, {9, 1, 9}};
        for (int kind = SUITE; kind <= PARTED; kind += 2) {
            for (int[] run : runs) {
                InstallDesk x = ofKinds(PLAIN, new int[] {kind, 0b1, 1});
                find(x, 0, 0, run[0], 1);
                find(x, 0, 0, run[1], 2);
                dueHeld("found, and made", x, kind == PARTED ? run[0] : 0, run[2]);
            }
        }
    }

    @Says(part = 0, words = "and, if that is not PARTED, it does not have those parts any more.")
    static void partsGoOrStay() {
        InstallDesk x = ofKinds(PLAIN, PLAIN, PLAIN, new int[] {SUITE, 0b11, 1});
        find(x, 0, 0, 4, 1);
        find(x, 0, 0, 5, 2);
        find(x, 0, 0, 6, 3);
        dueHeld("a suite takes all parts that are had, and no others", x, 0, 0, 6, 5);
        InstallDesk y = ofKinds(PLAIN, PLAIN, PLAIN, new int[] {PARTED, 0b11, 1});
        find(y, 0, 0, 4, 1);
        find(y, 0, 0, 5, 2);
        find(y, 0, 0, 6, 3);
        dueHeld("what is parted leaves them", y, 4, 5, 6, 5);
        InstallDesk z = ofKinds(PLAIN, PLAIN, new int[] {SUITE, 0b11, 2});
        find(z, 0, 0, 4, 1);
        dueHeld("a suite that is not made takes none", z, 4, 0, 0);
        z.host(1, 0);
        find(z, 1, 0, 4, 1);
        find(z, 1, 0, 4, 2);
        dueHeld("nor does one on another host", z, 4, 0, 0);
        due("which has taken its own", z.has(1, 0), NONE);
    }

    @Says(part = 0, words = "(A SUITE that is its own part is not looked at as that.)")
    static void itsOwnPart() {
        for (int kind = SUITE; kind <= PARTED; kind += 2) {
            InstallDesk x = ofKinds(PLAIN, new int[] {kind, 0b11, 2});
            find(x, 0, 0, 4, 2);
            dueHeld("found alone", x, 0, 4);
            find(x, 0, 0, 5, 1);
            dueHeld("it is not a second part", x, 5, 4);
            InstallDesk y = ofKinds(PLAIN, new int[] {kind, 0b11, 1});
            find(y, 0, 0, 4, 2);
            dueHeld("it does not take itself", y, 0, 4);
            find(y, 0, 0, 3, 1);
            dueHeld("it does not go with its parts", y, kind == PARTED ? 3 : 0, 4);
        }
    }

    // ---- uses, measures

    @Says(part = 0, words = "USES 0, 1, .. (at most 30) are of a person and a product, from a tick to a "
        + "tick (0 to 999, the first below the second);")
    static void thirtyUses() {
        InstallDesk x = plain(2, 0);
        due("the longest", x.use(0, 0, 0, 999), 0);
        due("the first tick", x.use(9, 0, 0, 1), 1);
        due("the last tick", x.use(0, 1, 998, 999), 2);
        due("of no ticks", x.use(0, 0, 5, 5), BEYOND);
        due("the second below the first", x.use(0, 0, 6, 5), BEYOND);
        for (int i = 3; i < 30; i++) {
            due("use no. " + i, x.use(i % 10, 1, 40, 50), i);
        }
        due("a thirty-first", x.use(0, 0, 0, 1), FULL);
        due("of one product", x.at(0, 0), 2);
        due("of the other", x.at(1, 40), 27);
    }

    @Says(part = 0, words = "a USE is at ticks from the first on, ahead of the second.")
    static void fromTheFirstAheadOfTheSecond() {
        InstallDesk x = plain(1, 0);
        x.use(0, 0, 10, 12);
        due("ahead of the first", x.at(0, 9), 0);
        due("at the first", x.at(0, 10), 1);
        due("ahead of the second", x.at(0, 11), 1);
        due("at the second", x.at(0, 12), 0);
        x.use(0, 0, 0, 999);
        due("at 0", x.at(0, 0), 1);
        due("at 998", x.at(0, 998), 1);
        due("at 999", x.at(0, 999), 0);
    }

    @Says(part = 0, words = "A product COUNTS by MEASURES: 0 hosts that HAVE it;")
    static void byHosts() {
        InstallDesk x = plain(1, 8);
        due("none", x.measure(0, 0), 0);
        for (int i = 0; i < 8; i++) {
            find(x, i, 0, 1, 1);
            find(x, i, 0, 2, 1);
            due("hosts up to " + i, x.measure(0, 0), i + 1);
        }
        x.product(SUITE, 1, 1);
        due("a suite took them", x.measure(0, 0), 0);
        due("the suite", x.measure(1, 0), 8);
    }

    @Says(part = 0, words = "1 unlike persons of these;")
    static void byPersons() {
        InstallDesk x = plain(1, 0);
        int[] persons = {0, 9, 0, 9, 5, 5, 1, 7};
        int[] unlike = {1, 2, 2, 2, 3, 3, 4, 4};
        due("none", x.measure(0, 1), 0);
        for (int i = 0; i < 8; i++) {
            x.host(1, persons[i]);
            if (i < 7) {
                find(x, i, 0, 1, 1);
            }
            due("persons up to host " + i, x.measure(0, 1), unlike[i]);
        }
    }

    @Says(part = 0, words = "2 of each of these its CORES by 8, rounded up, all together;")
    static void byCores() {
        int[] cores = {1, 7, 8, 9, 15, 16, 17, 63, 64};
        int[] eights = {1, 1, 1, 2, 2, 2, 3, 8, 8};
        for (int i = 0; i < cores.length; i++) {
            InstallDesk x = plain(1, 0);
            x.host(cores[i], 0);
            due("had by none", x.measure(0, 2), 0);
            find(x, 0, 0, 1, 1);
            due("of " + cores[i], x.measure(0, 2), eights[i]);
        }
        InstallDesk y = plain(1, 0);
        for (int i = 0; i < 8; i++) {
            y.host(i < 4 ? 9 : 64, 0);
            find(y, i, 0, 1, 1);
        }
        due("each is rounded, not the sum", y.measure(0, 2), 4 * 2 + 4 * 8);
    }

    @Says(part = 0, words = "3 the most USES of it at one tick.")
    static void byUses() {
        InstallDesk x = plain(2, 0);
        due("none", x.measure(0, 3), 0);
        x.use(1, 1, 0, 1);
        due("one, at the first tick", x.measure(1, 3), 1);
        x.use(1, 0, 10, 20);
        x.use(1, 0, 20, 30);
        due("one ends as one begins", x.measure(0, 3), 1);
        x.use(1, 0, 19, 20);
        due("two at tick 19, of one person", x.measure(0, 3), 2);
        x.use(1, 1, 19, 20);
        due("one of another product", x.measure(0, 3), 2);
        for (int i = 5; i < 30; i++) {
            x.use(1, 0, 998, 999);
        }
        due("at the last tick", x.measure(0, 3), 25);
    }

    // ---- rights

    @Says(part = 0, words = "RIGHTS 0, 1, .. (at most 10) are of a product, for versions up to one (1 to "
        + "9), of an AMOUNT (0 to 40), a PRICE each (0 to 1000), from a day to a day (the first not "
        + "above the second).")
    static void tenRights() {
        InstallDesk x = plain(2, 1);
        due("the least of all", x.right(0, 1, 0, 0, 0, 0), 0);
        due("the greatest of all", x.right(1, 9, 40, 1000, 9999, 9999), 1);
        due("the longest", x.right(0, 1, 0, 0, 0, 9999), 2);
        due("the first above the second", x.right(0, 1, 0, 0, 1, 0), BEYOND);
        for (int i = 3; i < 10; i++) {
            due("right no. " + i, x.right(0, 5, 1, 1, 1, 1), i);
        }
        due("an eleventh", x.right(0, 1, 0, 0, 0, 0), FULL);
        due("amount 0", x.amount(0, 0), 0);
        due("amount 40", x.amount(1, 40), 40);
        x.today(9999);
        find(x, 0, 9999, 9, 2);
        due("price 1000, day 9999, version 9", x.cost(), 1000);
    }

    @Says(part = 0, words = "NEEDS are pairs of a host and a product that it HAS and that is not FREE.")
    static void pairsThatAreNotFree() {
        InstallDesk x = ofKinds(PLAIN, new int[] {FREE, 0, 0}, new int[] {SUITE, 0b1000, 1}, PLAIN,
            new int[] {PARTED, 0b10, 1});
        x.host(1, 0);
        due("none", x.needs(), 0);
        find(x, 0, 0, 1, 1);
        find(x, 0, 0, 2, 1);
        due("one, found twice", x.needs(), 1);
        find(x, 1, 0, 1, 1);
        due("one a host", x.needs(), 2);
        find(x, 1, 0, 1, 4);
        due("a suite without its part", x.needs(), 3);
        find(x, 0, 0, 1, 2);
        due("what is parted, without its free part", x.needs(), 4);
        due("eighty", eighty().needs(), 80);
    }

    @Says(part = 0, words = "A RIGHT MAY serve a NEED, if it is of that product,")
    static void ofThatProduct() {
        InstallDesk x = ofKinds(PLAIN, new int[] {SUITE, 0b1, 1}, PLAIN);
        find(x, 0, 0, 1, 1);
        x.right(0, 9, 1, 1, 0, 0);
        x.right(2, 9, 1, 1, 0, 0);
        due("one of the part and one of another product", x.lack(), 1);
        due("nothing is paid", x.cost(), 0);
        x.right(1, 9, 1, 1, 0, 0);
        due("one of the suite", x.lack(), 0);
    }

    @Says(part = 0, words = "its version is not below that had,")
    static void versionNotBelow() {
        for (int had = 1; had <= 9; had++) {
            for (int right = 1; right <= 9; right++) {
                InstallDesk x = plain(1, 1);
                find(x, 0, 0, had, 1);
                x.right(0, right, 1, 1, 0, 0);
                due(right + " for " + had, x.may(0, 0), right >= had ? 1 : 0);
                due(right + " for " + had + ", lack", x.lack(), right >= had ? 0 : 1);
            }
        }
    }

    @Says(part = 0, words = "and TODAY is one of its days.")
    static void onItsDays() {
        InstallDesk x = plain(1, 1);
        find(x, 0, 9, 1, 1);
        x.right(0, 1, 1, 1, 10, 12);
        int[] lacks = {1, 0, 0, 0, 1};
        for (int day = 9; day <= 13; day++) {
            x.today(day);
            due("may on day " + day, x.may(0, 0), 1 - lacks[day - 9]);
            due("lack on day " + day, x.lack(), lacks[day - 9]);
        }
    }

    @Says(part = 0, words = "A MATCH gives some NEEDS a RIGHT each that MAY serve it, none to more than "
        + "its AMOUNT.")
    static void noneToMoreThanItsAmount() {
        InstallDesk x = plain(1, 8);
        for (int i = 0; i < 8; i++) {
            find(x, i, 0, 1, 1);
        }
        x.right(0, 1, 0, 1, 0, 0);
        for (int amount = 0; amount <= 9; amount++) {
            x.amount(0, amount);
            due("amount " + amount + ", lack", x.lack(), Math.max(0, 8 - amount));
            due("amount " + amount + ", cost", x.cost(), Math.min(8, amount));
        }
        x.amount(0, 40);
        due("amount 40", x.cost(), 8);
        x.amount(0, 3);
        x.right(0, 1, 4, 2, 0, 0);
        due("two rights of 3 and 4, lack", x.lack(), 1);
        due("two rights of 3 and 4, cost", x.cost(), 3 + 8);
    }

    @Says(part = 0, words = "THE LACK is the least number of NEEDS without a RIGHT, over all MATCHES;")
    static void theLeastLack() {
        int[][] orders = {{1, 5, 9}, {9, 5, 1}, {5, 9, 1}, {1, 9, 5}};
        for (int[] had : orders) {
            for (int[] rights : orders) {
                InstallDesk x = plain(1, 3);
                for (int i = 0; i < 3; i++) {
                    find(x, i, 0, had[i], 1);
                    x.right(0, rights[i], 1, 10 - rights[i], 0, 0);
                }
                due("each has its own, though the greatest is cheapest", x.lack(), 0);
                x.amount(0, 0);
                due("one is missing", x.lack(), 1);
            }
        }
    }

    @Says(part = 0, words = "THE COST the least sum of PRICES of those that lack so few.")
    static void theLeastCostOfTheLeastLack() {
        InstallDesk x = plain(1, 2);
        find(x, 0, 0, 3, 1);
        find(x, 1, 0, 6, 1);
        due("nothing serves, nothing is paid", x.cost(), 0);
        x.right(0, 6, 1, 0, 0, 0);
        due("one that costs nothing", x.cost(), 0);
        x.right(0, 3, 1, 1000, 0, 0);
        due("less lack at any price", x.cost(), 1000);
        x.right(0, 9, 1, 999, 0, 0);
        due("a cheaper one, of a greater version", x.cost(), 999);
        x.right(0, 9, 2, 400, 0, 0);
        due("a still cheaper one", x.cost(), 400);
        x.right(0, 3, 2, 7, 0, 0);
        due("the low version by the low right", x.cost(), 7);
    }
}
