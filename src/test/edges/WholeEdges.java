/** The sentences of the promises 1 and 34 to 36: a new object, and the whole. */
final class WholeEdges extends Check {

    @Says(part = 1, words = "Nothing is told;")
    static void newNothingIsTold() {
        InstallDesk x = new InstallDesk();
        for (int what = 0; what <= 6; what++) {
            due("told(" + what + ")", x.told(what), 0);
        }
        for (int what = 0; what <= 3; what++) {
            due("finds(" + what + ")", x.finds(what), 0);
            due("all(" + what + ")", x.all(what), 0);
        }
        due("needs", x.needs(), 0);
        due("lack", x.lack(), 0);
        due("cost", x.cost(), 0);
        due("back", x.back(), NONE);
        due("no product", x.as(0, PRODUCT), BEYOND);
        due("no rule", x.unrule(0), BEYOND);
        due("no host", x.moved(0, 0), BEYOND);
        due("no find", x.drop(0), BEYOND);
        due("no right", x.amount(0, 0), BEYOND);
    }

    @Says(part = 1, words = "Nothing is told;")
    static void newKnowsNothingOfOthers() {
        InstallDesk other = full();
        other.keep();
        other.today(99);
        InstallDesk x = new InstallDesk();
        for (int what = 0; what <= 6; what++) {
            due("told(" + what + ")", x.told(what), 0);
        }
        due("back", x.back(), NONE);
        due("today", x.today(1), 0);
        due("kept", x.kept(1), 30);
        due("the other's", other.told(0), 10);
    }

    @Says(part = 1, words = "TODAY is 0.")
    static void newTodayIsZero() {
        due("today", new InstallDesk().today(9999), 0);
        InstallDesk x = plain(1, 1);
        find(x, 0, 0, 1, 1);
        find(x, 0, 1, 1, 1);
        due("of day 0", x.counts(0), 1);
        due("of day 1", x.counts(1), 0);
    }

    /** Two of most things, with numbers that are nowhere alike. */
    private static InstallDesk two() {
        InstallDesk x = ofKinds(new int[] {PRODUCT, 0, 0}, new int[] {SUITE, 0b1000, 1});
        x.host(17, 6);
        rule(x, 5, 1, 28);
        rule(x, 4, 0, 28);
        find(x, 0, 3, 4, 1);
        find(x, 1, 2, 5, 2);
        find(x, 1, 4, 6, 11);
        x.use(1, 0, 5, 9);
        x.use(2, 1, 7, 8);
        x.right(0, 4, 3, 2, 1, 8);
        x.right(1, 5, 4, 9, 3, 6);
        x.today(3);
        x.kept(6);
        return x;
    }

    private static void upset(InstallDesk x) {
        for (int i = 0; i < 3; i++) {
            x.drop(0);
        }
        for (int i = 0; i < 4; i++) {
            x.unrule(0);
        }
        x.product(PARTED, 3, 1);
        x.product(FREE, 0, 0);
        rule(x, 9, 1, 21);
        rule(x, 8, 3, 22);
        rule(x, 1, 2, 23);
        rule(x, 7, 2, 24);
        x.host(1, 1);
        x.moved(0, 7);
        x.moved(1, 8);
        x.amount(0, 0);
        x.amount(1, 40);
        x.right(1, 1, 1, 1, 1, 1);
        x.use(2, 1, 0, 1);
        find(x, 2, 70, 9, 21);
        find(x, 0, 71, 8, 22);
        find(x, 0, 72, 7, 23);
        x.today(77);
        x.kept(0);
    }

    @Says(part = 34, words = "All")
    static void keepAll() {
        InstallDesk x = two();
        x.keep();
        due("keep changes nothing", x.cost(), 2 + 9);
        upset(x);
        x.back();
        InstallDesk same = two();
        same.keep();
        due("the desk that was kept", Picture.of(x), Picture.of(same));
    }

    @Says(part = 34, words = "(but letters that wait, and what told(5) counts)")
    static void keepNoLettersAndNoFindings() {
        InstallDesk x = plain(1, 1);
        spell(x, 1, 2);
        x.letter(0);
        x.keep();
        due("letters wait on", x.told(6), 2);
        due("findings stay", x.told(5), 1);
        x.letter(3);
        x.letter(29);
        x.letter(29);
        x.back();
        due("letters told since wait on", x.told(6), 3);
        due("findings told since stay", x.told(5), 3);
        rule(x, 0, 0, 4);
        x.back();
        due("letters that were taken do not come back", x.told(6), 0);
        due("but the rule goes", x.told(1), 1);
    }

    @Says(part = 34, words = "is kept in place of what was:")
    static void keepInPlaceOfWhatWas() {
        InstallDesk x = plain(1, 1);
        x.keep();
        x.today(5);
        find(x, 0, 0, 1, 1);
        x.keep();
        x.today(9);
        x.drop(0);
        due("the later one", x.back(), 1);
        due("its day", x.today(1), 5);
        x.drop(0);
        x.keep();
        find(x, 0, 0, 1, 1);
        due("one with less", x.back(), 0);
        due("its day", x.today(1), 1);
    }

    @Says(part = 34, words = "how many FINDS.")
    static void keepHowManyFinds() {
        InstallDesk x = plain(1, 1);
        due("none", x.keep(), 0);
        for (int i = 1; i <= 40; i++) {
            x.find(0, 9999, 1);
            due("though none counts, " + i, x.keep(), i);
        }
        x.drop(0);
        due("one less", x.keep(), 39);
    }

    @Says(part = 35, words = "All is as it was kept")
    static void backAllIsAsItWas() {
        InstallDesk x = two();
        x.keep();
        upset(x);
        x.back();
        due("products", x.told(0), 2);
        due("kinds", x.as(1, PARTED), KIND);
        due("rules", x.told(1), 4);
        due("hosts", x.told(2), 2);
        due("uses", x.told(3), 2);
        due("rights", x.told(4), 2);
        due("goes", x.goes(0), 0);
        due("by", x.by(1), 1);
        due("by the less rank", x.by(2), 3);
        due("counts", x.finds(3), 2);
        due("has", x.has(0, 0), 4);
        due("has", x.has(1, 1), 5);
        due("cores", x.all(2), 1 + 3);
        due("peak", x.peak(1), 7);
        due("cost", x.cost(), 2 + 9);
        due("days of rights", x.when(0), 7);
        due("person", x.moved(0, 1), 0);
        due("person", x.moved(1, 1), 6);
        due("amount", x.amount(0, 0), 3);
        due("amount", x.amount(1, 0), 4);
        due("today", x.today(0), 3);
        due("kept", x.kept(0), 6);
    }

    @Says(part = 35, words = "All is as it was kept")
    static void backFromFullToNothing() {
        InstallDesk x = new InstallDesk();
        x.keep();
        for (int i = 0; i < 10; i++) {
            x.product(PARTED, 1023, 1);
            x.host(1, 0);
            x.rule(0, 0);
            x.find(0, 0, 1);
            x.use(0, 0, 0, 1);
            x.right(0, 1, 1, 1, 0, 0);
        }
        due("no finds", x.back(), 0);
        for (int what = 0; what <= 4; what++) {
            due("told(" + what + ")", x.told(what), 0);
        }
        x.product(PRODUCT, 0, 0);
        due("uses of a new product", x.measure(0, 3), 0);
        x.host(1, 0);
        due("a new host has nothing", x.has(0, 0), NONE);
        x.find(0, 0, 1);
        due("no rule of before fits", x.goes(0), UNREAD);
        x.rule(0, 0);
        due("no right of before serves", x.lack(), 1);
    }

    @Says(part = 35, words = "(which stays):")
    static void backWhichStays() {
        InstallDesk x = two();
        x.keep();
        InstallDesk same = two();
        same.keep();
        for (int time = 0; time < 3; time++) {
            upset(x);
            due("back, time " + time, x.back(), 3);
        }
        due("the desk that was kept", Picture.of(x), Picture.of(same));
    }

    @Says(part = 35, words = "how many FINDS.")
    static void backHowManyFinds() {
        for (int many = 0; many <= 40; many += 20) {
            InstallDesk x = plain(1, 1);
            for (int i = 0; i < many; i++) {
                x.find(0, 9999, 1);
            }
            x.keep();
            x.find(0, 0, 1);
            x.drop(0);
            x.drop(0);
            due("of " + many, x.back(), many);
            due("they are there", x.finds(2), many);
        }
    }

    @Says(part = 35, words = "NONE: nothing is kept.")
    static void backNone() {
        InstallDesk x = plain(1, 1);
        x.today(5);
        due("nothing is kept", x.back(), NONE);
        due("nothing has changed", x.told(0), 1);
        due("today is as it was", x.today(6), 5);
        due("still nothing", x.back(), NONE);
        x.keep();
        due("something is kept", x.back(), 0);
        InstallDesk y = new InstallDesk();
        y.keep();
        due("nothing at all, but kept", y.back(), 0);
    }

    @Says(part = 36, words = "0 products,")
    static void toldProducts() {
        due("of a full desk", full().told(0), 10);
        due("of few", plain(3, 1).told(0), 3);
    }

    @Says(part = 36, words = "1 rules,")
    static void toldRules() {
        InstallDesk x = full();
        due("of a full desk", x.told(1), 16);
        x.unrule(15);
        due("one less", x.told(1), 15);
    }

    @Says(part = 36, words = "2 hosts,")
    static void toldHosts() {
        due("of a full desk", full().told(2), 8);
        due("of few", plain(3, 1).told(2), 1);
    }

    @Says(part = 36, words = "3 USES,")
    static void toldUses() {
        InstallDesk x = plain(1, 2);
        due("of none", x.told(3), 0);
        due("of a full desk", full().told(3), 30);
    }

    @Says(part = 36, words = "4 RIGHTS,")
    static void toldRights() {
        InstallDesk x = plain(1, 2);
        due("of none", x.told(4), 0);
        x.right(0, 1, 0, 0, 0, 0);
        due("also one of no amount", x.told(4), 1);
        due("of a full desk", full().told(4), 10);
    }

    @Says(part = 36, words = "5 how many acts answered a finding ever (this one, too, if it does),")
    static void toldFindings() {
        InstallDesk x = plain(2, 1);
        due("none", x.told(5), 0);
        x.told(7);
        due("told itself", x.told(5), 1);
        due("it does not count itself", x.told(5), 1);
        x.letter(0);
        due("BEYOND", x.told(5), 2);
        x.back();
        due("NONE", x.told(5), 3);
        x.as(0, SUITE);
        due("KIND", x.told(5), 4);
        rule(x, 0, 1, 1);
        find(x, 0, 0, 1, 1);
        x.goes(0);
        due("QUARREL", x.told(5), 5);
        find(x, 0, 0, 1, 9);
        x.goes(1);
        x.by(1);
        due("UNREAD", x.told(5), 7);
        find(x, 0, 0, 1, 27);
        due("SIZE", x.told(5), 8);
        spell(x, TWELVE);
        x.letter(1);
        due("FULL", x.told(5), 9);
    }

    @Says(part = 36, words = "5 how many acts answered a finding ever (this one, too, if it does),")
    static void toldNoFindingsOfZero() {
        InstallDesk x = plain(1, 1);
        due("find", find(x, 0, 0, 1, 1), 0);
        due("goes", x.goes(0), 0);
        due("by", x.by(0), 0);
        due("as", x.as(0, PRODUCT), 0);
        due("use", x.use(0, 0, 0, 1), 0);
        due("peak", x.peak(0), 0);
        due("right", x.right(0, 1, 0, 0, 0, 0), 0);
        due("amount", x.amount(0, 1), 0);
        due("cost", x.cost(), 0);
        due("when", x.when(1), NONE);
        x.amount(0, 0);
        due("when", x.when(0), 0);
        due("today", x.today(1), 0);
        due("may", x.may(0, 0), 0);
        due("only NONE is a finding", x.told(5), 1);
    }

    @Says(part = 36, words = "5 how many acts answered a finding ever (this one, too, if it does),")
    static void toldFindingsOfAWholeRun() {
        InstallDesk x = new InstallDesk();
        for (int i = 0; i < 511; i++) {
            x.told(7);
        }
        due("the 512th call", x.told(5), 511);
    }

    @Says(part = 36, words = "6 letters that wait.")
    static void toldLetters() {
        InstallDesk x = plain(1, 1);
        due("none", x.told(6), 0);
        spell(x, 1, 27, 28);
        due("three", x.told(6), 3);
        due("of a full desk", full().told(6), 12);
    }

    @Says(part = 36, words = "BEYOND: another what.")
    static void toldBeyond() {
        dueBeyondOutside("what", new InstallDesk()::told, 0, 6);
        dueBeyondOutside("what", full()::told, 0, 6);
    }
}
