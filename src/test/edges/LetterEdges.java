/** The sentences of the promises 2 to 7: letters, rules, products. */
final class LetterEdges extends Check {

    @Says(part = 2, words = "One more letter or sign waits: how many.")
    static void letterOneMoreWaits() {
        InstallDesk x = new InstallDesk();
        int[] signs = {1, 26, 27, 28, 28, 1, 13, 27, 2, 3, 4, 5};
        for (int i = 0; i < 12; i++) {
            due("letter no. " + (i + 1), x.letter(signs[i]), i + 1);
            due("how many wait", x.told(6), i + 1);
        }
    }

    @Says(part = 2, words = "BEYOND: it is not 1 to 28.")
    static void letterBeyond() {
        InstallDesk x = new InstallDesk();
        dueBeyondOutside("letter", x::letter, 1, 28);
        due("none waits", x.told(6), 0);
        due("the least", x.letter(1), 1);
        due("the greatest", x.letter(28), 2);
    }

    @Says(part = 2, words = "FULL: 12 wait.")
    static void letterFull() {
        InstallDesk x = plain(1, 1);
        spell(x, 1, 2, 3, 4, 5, 6, 7, 8, 9, 10, 11);
        due("a twelfth", x.letter(12), 12);
        due("a thirteenth", x.letter(13), FULL);
        due("again", x.letter(28), FULL);
        due("twelve wait", x.told(6), 12);
        due("as they were", x.find(0, 0, 1), 0);
        due("the first of new ones", x.letter(1), 1);
        spell(x, 2, 3, 4, 5, 6, 7, 8, 9, 10, 11, 12);
        due("fits", x.fits(x.rule(0, 0), 0), 1);
    }

    @Says(part = 3, words = "A new product: its number.")
    static void productItsNumber() {
        InstallDesk x = new InstallDesk();
        for (int i = 0; i < 10; i++) {
            due("product no. " + i, x.product(i % 4, 1, 1), i);
            due("products", x.told(0), i + 1);
        }
    }

    @Says(part = 3, words = "BEYOND: kind is not 0 to 3,")
    static void productBeyondKind() {
        InstallDesk x = new InstallDesk();
        dueBeyondOutside("kind", kind -> x.product(kind, 1, 1), 0, 3);
        due("none is made", x.told(0), 0);
        for (int kind = 0; kind <= 3; kind++) {
            due("kind " + kind, x.product(kind, 1, 1), kind);
        }
    }

    @Says(part = 3, words = "or (of SUITE, PARTED) parts has a bit beyond 9,")
    static void productBeyondBits() {
        for (int kind = SUITE; kind <= PARTED; kind += 2) {
            InstallDesk x = new InstallDesk();
            int suite = kind;
            for (int bit = 10; bit <= 31; bit++) {
                due("bit " + bit, x.product(suite, 1 << bit, 1), BEYOND);
                due("bit " + bit + " and all below 10", x.product(suite, 1 << bit | 1023, 1), BEYOND);
            }
            due("none is made", x.told(0), 0);
            due("all bits up to 9", x.product(suite, 1023, 1), 0);
            due("bit 9", x.product(suite, 512, 1), 1);
            due("no bits", x.product(suite, 0, 1), 2);
        }
    }

    @Says(part = 3, words = "or is below 0,")
    static void productBeyondNegativeParts() {
        for (int kind = SUITE; kind <= PARTED; kind += 2) {
            InstallDesk x = new InstallDesk();
            int suite = kind;
            dueForEach("parts", parts -> x.product(suite, parts, 1), BEYOND, -1, -2, -1023, -1024,
                Integer.MIN_VALUE, Integer.MIN_VALUE + 1, Integer.MIN_VALUE + 1023);
            due("none is made", x.told(0), 0);
        }
    }

    @Says(part = 3, words = "or least is not 1 to 10.")
    static void productBeyondLeast() {
        for (int kind = SUITE; kind <= PARTED; kind += 2) {
            InstallDesk x = new InstallDesk();
            int suite = kind;
            dueBeyondOutside("least", least -> x.product(suite, 1, least), 1, 10);
            due("none is made", x.told(0), 0);
            due("least 1", x.product(suite, 1, 1), 0);
            due("least 10", x.product(suite, 1, 10), 1);
        }
    }

    @Says(part = 3, words = "or (of SUITE, PARTED) parts has a bit beyond 9,")
    static void productOfOtherKindsHasNoParts() {
        for (int kind = PRODUCT; kind <= FREE; kind += 2) {
            InstallDesk x = new InstallDesk();
            due("a bit beyond 9", x.product(kind, 1024, 1), 0);
            due("parts below 0", x.product(kind, -1, 1), 1);
            due("least 0", x.product(kind, 0, 0), 2);
            due("least 11", x.product(kind, 0, 11), 3);
            due("all wrong", x.product(kind, Integer.MIN_VALUE, Integer.MAX_VALUE), 4);
            x.host(1, 0);
            rule(x, 0, 0, 28);
            x.find(0, 0, 3);
            dueHeld("parts make no suite of it", x, 3, 0, 0, 0, 0);
        }
    }

    @Says(part = 3, words = "FULL: there are 10.")
    static void productFull() {
        InstallDesk x = new InstallDesk();
        for (int i = 0; i < 9; i++) {
            x.product(PRODUCT, 0, 0);
        }
        due("a tenth", x.product(PRODUCT, 0, 0), 9);
        for (int kind = 0; kind <= 3; kind++) {
            due("an eleventh", x.product(kind, 1, 1), FULL);
        }
        due("products", x.told(0), 10);
        due("the tenth is as it was", x.as(9, FREE), KIND);
    }

    @Says(part = 4, words = "A product as one of a kind: its number.")
    static void asItsNumber() {
        InstallDesk x = new InstallDesk();
        for (int i = 0; i < 10; i++) {
            x.product(PARTED, 0, 1);
        }
        for (int i = 0; i < 10; i++) {
            due("as itself", x.as(i, PARTED), i);
            due("as a suite", x.as(i, SUITE), i);
            due("as a product", x.as(i, PRODUCT), i);
        }
    }

    @Says(part = 4, words = "BEYOND: no such product,")
    static void asBeyondProduct() {
        InstallDesk x = new InstallDesk();
        due("there is none", x.as(0, PRODUCT), BEYOND);
        x.product(PRODUCT, 0, 0);
        x.product(PRODUCT, 0, 0);
        dueBeyondOutside("product", product -> x.as(product, PRODUCT), 0, 1);
        due("the last", x.as(1, PRODUCT), 1);
    }

    @Says(part = 4, words = "or kind.")
    static void asBeyondKind() {
        InstallDesk x = new InstallDesk();
        x.product(PARTED, 0, 1);
        dueBeyondOutside("kind", kind -> x.as(0, kind), 0, 3);
    }

    @Says(part = 4, words = "KIND: it is not of that kind, nor of one under it.")
    static void asNotOfThatKind() {
        InstallDesk x = new InstallDesk();
        for (int kind = 0; kind <= 3; kind++) {
            x.product(kind, 0, 1);
        }
        int[][] not = {{PRODUCT, SUITE}, {PRODUCT, FREE}, {PRODUCT, PARTED}, {SUITE, FREE},
            {SUITE, PARTED}, {FREE, SUITE}, {FREE, PARTED}, {PARTED, FREE}};
        for (int[] pair : not) {
            due("as(" + pair[0] + ", " + pair[1] + ")", x.as(pair[0], pair[1]), KIND);
        }
    }

    @Says(part = 5, words = "A new rule of the letters that wait")
    static void ruleOfTheLettersThatWait() {
        InstallDesk x = new InstallDesk();
        x.product(PRODUCT, 0, 0);
        x.host(1, 0);
        rule(x, 0, 0, 3, 1, 2);
        due("just these", x.fits(0, find(x, 0, 0, 1, 3, 1, 2)), 1);
        due("in their order", x.fits(0, find(x, 0, 0, 1, 2, 1, 3)), 0);
        due("none of them less", x.fits(0, find(x, 0, 0, 1, 3, 1)), 0);
        due("none that waited for an earlier one", x.fits(rule(x, 0, 0, 2), 0), 0);
        due("of none", x.fits(x.rule(0, 0), x.find(0, 0, 1)), 1);
    }

    @Says(part = 5, words = "(none do then, also with SIZE): its number.")
    static void ruleNoneWaitThen() {
        InstallDesk x = new InstallDesk();
        x.product(PRODUCT, 0, 0);
        due("a rule", rule(x, 0, 0, 1, 2), 0);
        due("none waits", x.told(6), 0);
        due("no pattern", rule(x, 0, 0, 28, 2, 3), SIZE);
        due("none waits, either", x.told(6), 0);
        due("and no rule is made", x.told(1), 1);
        due("the next number", rule(x, 9, 0, 3), 1);
        due("the next letter is the first", x.letter(4), 1);
        x.host(1, 0);
        due("fits", x.fits(1, find(x, 0, 0, 1, 3)), 0);
    }

    @Says(part = 5, words = "BEYOND: no such product,")
    static void ruleBeyondProduct() {
        InstallDesk x = new InstallDesk();
        spell(x, 1, 2);
        due("there is none", x.rule(0, 0), BEYOND);
        x.product(PRODUCT, 0, 0);
        x.product(PRODUCT, 0, 0);
        dueBeyondOutside("product", product -> x.rule(0, product), 0, 1);
        due("the letters stay", x.told(6), 2);
        due("no rule is made", x.told(1), 0);
        due("the last product", x.rule(0, 1), 0);
    }

    @Says(part = 5, words = "or rank (they stay).")
    static void ruleBeyondRank() {
        InstallDesk x = plain(1, 1);
        spell(x, 1, 2);
        dueBeyondOutside("rank", rank -> x.rule(rank, 0), 0, 9);
        due("the letters stay", x.told(6), 2);
        due("no rule is made", x.told(1), 1);
        due("rank 9", x.rule(9, 0), 1);
        due("of the letters that stayed", x.fits(1, find(x, 0, 0, 1, 1, 2)), 1);
        due("rank 0", x.rule(0, 0), 2);
    }

    @Says(part = 5, words = "FULL (they stay).")
    static void ruleFull() {
        InstallDesk x = new InstallDesk();
        x.product(PRODUCT, 0, 0);
        x.host(1, 0);
        for (int i = 0; i < 15; i++) {
            rule(x, 0, 0, 2);
        }
        due("a sixteenth", rule(x, 0, 0, 3), 15);
        spell(x, 5, 6);
        due("a seventeenth", x.rule(0, 0), FULL);
        due("the letters stay", x.told(6), 2);
        due("as they were", x.find(0, 0, 1), 0);
        due("the sixteenth is as it was", x.fits(15, find(x, 0, 0, 1, 3)), 1);
        spell(x, 5, 6);
        x.unrule(0);
        due("there is room for one", x.rule(0, 0), 15);
        due("of those that stayed", x.fits(15, 0), 1);
    }

    @Says(part = 5, words = "SIZE: they are no PATTERN (28 is not the last).")
    static void ruleSize() {
        for (int length = 1; length <= 12; length++) {
            for (int place = 0; place < length; place++) {
                InstallDesk x = new InstallDesk();
                x.product(PRODUCT, 0, 0);
                for (int i = 0; i < length; i++) {
                    x.letter(i == place ? 28 : 27);
                }
                int want = place == length - 1 ? 0 : SIZE;
                due("28 at " + place + " of " + length, x.rule(0, 0), want);
                due("rules", x.told(1), want == 0 ? 1 : 0);
                due("letters", x.told(6), 0);
            }
        }
    }

    @Says(part = 6, words = "A rule goes;")
    static void unruleGoes() {
        InstallDesk x = plain(2, 1);
        find(x, 0, 0, 1, 1);
        find(x, 0, 0, 1, 2);
        x.unrule(0);
        due("its names are unread", x.goes(0), UNREAD);
        due("others are not", x.goes(1), 1);
        due("they count no more", x.has(0, 0), NONE);
    }

    @Says(part = 6, words = "those behind it have numbers one less:")
    static void unruleNumbersOneLess() {
        for (int gone = 0; gone < 16; gone++) {
            InstallDesk x = new InstallDesk();
            x.product(PRODUCT, 0, 0);
            x.product(PRODUCT, 0, 0);
            x.host(1, 0);
            for (int i = 0; i < 16; i++) {
                rule(x, i % 10, i % 2, i + 1);
                find(x, 0, 0, 1, i + 1);
            }
            x.unrule(gone);
            for (int i = 0; i < 16; i++) {
                int want = i == gone ? UNREAD : i < gone ? i : i - 1;
                due("rule " + i + " after unrule(" + gone + ")", x.by(i), want);
                due("its product", x.goes(i), i == gone ? UNREAD : i % 2);
            }
        }
    }

    @Says(part = 6, words = "those behind it have numbers one less:")
    static void unruleRanksGoAlong() {
        InstallDesk x = new InstallDesk();
        x.product(PRODUCT, 0, 0);
        x.product(PRODUCT, 0, 0);
        x.host(1, 0);
        x.find(0, 0, 1);
        rule(x, 0, 0, 1);
        rule(x, 5, 0, 28);
        rule(x, 4, 1, 28);
        x.unrule(0);
        due("the least rank", x.by(0), 1);
        due("its product", x.goes(0), 1);
        x.unrule(1);
        due("what is left", x.by(0), 0);
        due("its product", x.goes(0), 0);
    }

    @Says(part = 6, words = "how many there are.")
    static void unruleHowMany() {
        InstallDesk x = new InstallDesk();
        x.product(PRODUCT, 0, 0);
        for (int i = 0; i < 16; i++) {
            x.rule(0, 0);
        }
        for (int i = 15; i >= 0; i--) {
            due("of " + (i + 1), x.unrule(i / 2), i);
            due("told(1)", x.told(1), i);
        }
        due("a new one is the first", x.rule(0, 0), 0);
    }

    @Says(part = 6, words = "BEYOND.")
    static void unruleBeyond() {
        InstallDesk x = plain(2, 1);
        dueBeyondOutside("rule", x::unrule, 0, 1);
        due("both are there", x.told(1), 2);
        x.unrule(1);
        due("the last one has gone", x.unrule(1), BEYOND);
        x.unrule(0);
        due("there is none", x.unrule(0), BEYOND);
    }

    @Says(part = 7, words = "Whether a rule's PATTERN fits a FIND's NAME: 1, 0.")
    static void fitsWhether() {
        InstallDesk x = plain(2, 1);
        rule(x, 9, 0, 1, 28);
        find(x, 0, 9999, 1, 1);
        due("it fits, on whatever day", x.fits(0, 0), 1);
        due("it does not fit", x.fits(1, 0), 0);
        due("it fits, of whatever rank", x.fits(2, 0), 1);
    }

    @Says(part = 7, words = "BEYOND: no such rule,")
    static void fitsBeyondRule() {
        InstallDesk x = plain(2, 1);
        find(x, 0, 0, 1, 1);
        dueBeyondOutside("rule", rule -> x.fits(rule, 0), 0, 1);
        due("the last", x.fits(1, 0), 0);
        x.unrule(0);
        due("the last has moved", x.fits(1, 0), BEYOND);
    }

    @Says(part = 7, words = "or FIND.")
    static void fitsBeyondFind() {
        InstallDesk x = plain(1, 1);
        due("there is none", x.fits(0, 0), BEYOND);
        find(x, 0, 0, 1, 1);
        find(x, 0, 0, 1, 1);
        dueBeyondOutside("find", find -> x.fits(0, find), 0, 1);
        due("the last", x.fits(0, 1), 1);
        x.drop(0);
        due("the last has moved", x.fits(0, 1), BEYOND);
    }
}
