import java.util.Arrays;
import java.util.function.IntUnaryOperator;

/** What all tests of sentences inherit: the findings, the kinds, and ways to fill a desk. */
abstract class Check {
    static final int BEYOND = -1;
    static final int NONE = -2;
    static final int FULL = -3;
    static final int KIND = -4;
    static final int QUARREL = -5;
    static final int UNREAD = -6;
    static final int SIZE = -7;

    static final int PRODUCT = 0;
    static final int SUITE = 1;
    static final int FREE = 2;
    static final int PARTED = 3;

    static final int[] TWELVE = {1, 2, 3, 4, 5, 6, 7, 8, 9, 10, 11, 26};

    private static int wrong = 0;
    private static String sentence = "";

    static int wrongSoFar() {
        return wrong;
    }

    static void begin(String words) {
        sentence = words;
    }

    static void due(String call, int got, int want) {
        if (got != want) {
            wrong++;
            System.out.println(sentence + ": " + call + " answered " + got + ", due is " + want);
        }
    }

    static void due(String call, String got, String want) {
        if (!got.equals(want)) {
            wrong++;
            System.out.println(sentence + ": " + call + " gave\n  " + got + "\ndue is\n  " + want);
        }
    }

    /** One answer for all of these arguments. */
    static void dueForEach(String call, IntUnaryOperator act, int want, int... values) {
        for (int v : values) {
            due(call + " of " + v, act.applyAsInt(v), want);
        }
    }

    /** BEYOND for all that is not among these numbers. */
    static void dueBeyondOutside(String call, IntUnaryOperator act, int least, int most) {
        dueForEach(call, act, BEYOND, outside(least, most));
    }

    /** Numbers just outside, far outside, and such as a shift or a narrower number would wrap. */
    static int[] outside(int least, int most) {
        int[] tried = {least - 1, most + 1, least + 32, least + 64, most + 256, least + 65536,
            most + 65536, Integer.MIN_VALUE, Integer.MIN_VALUE + most, Integer.MAX_VALUE};
        return Arrays.stream(tried).filter(v -> v < least || v > most).distinct().toArray();
    }

    static void spell(InstallDesk x, int... signs) {
        for (int sign : signs) {
            x.letter(sign);
        }
    }

    static int rule(InstallDesk x, int rank, int product, int... signs) {
        spell(x, signs);
        return x.rule(rank, product);
    }

    static int find(InstallDesk x, int host, int day, int version, int... letters) {
        spell(x, letters);
        return x.find(host, day, version);
    }

    /** So many products and hosts; letter k + 1 alone is the name of product k. */
    static InstallDesk plain(int products, int hosts) {
        InstallDesk x = new InstallDesk();
        for (int i = 0; i < products; i++) {
            x.product(PRODUCT, 0, 0);
            rule(x, 0, i, i + 1);
        }
        for (int i = 0; i < hosts; i++) {
            x.host(1, i);
        }
        return x;
    }

    /** Products of these kinds {kind, parts, least}, named as in plain, and one host. */
    static InstallDesk ofKinds(int[]... kinds) {
        InstallDesk x = new InstallDesk();
        for (int i = 0; i < kinds.length; i++) {
            x.product(kinds[i][0], kinds[i][1], kinds[i][2]);
            rule(x, 0, i, i + 1);
        }
        x.host(1, 0);
        return x;
    }

    /** The versions with which host 0 has the first products, 0 for one that it has not. */
    static void dueHeld(String what, InstallDesk x, int... versions) {
        for (int product = 0; product < versions.length; product++) {
            int want = versions[product] == 0 ? NONE : versions[product];
            due(what + ", has(0, " + product + ")", x.has(0, product), want);
        }
    }

    /** Ten products on each of eight hosts: the most needs that there can be. */
    static InstallDesk eighty() {
        InstallDesk x = new InstallDesk();
        x.product(PRODUCT, 0, 0);
        for (int i = 1; i < 10; i++) {
            x.product(PARTED, 1, 1);
        }
        rule(x, 0, 0, 28);
        for (int i = 0; i < 8; i++) {
            x.host(1, 0);
            x.find(i, 0, 1);
        }
        return x;
    }

    /** As many of each thing as there may be, and twelve letters that wait. */
    static InstallDesk full() {
        InstallDesk x = new InstallDesk();
        for (int i = 0; i < 10; i++) {
            x.product(PRODUCT, 0, 0);
        }
        for (int i = 0; i < 16; i++) {
            rule(x, i % 10, i % 10, i + 1);
        }
        for (int i = 0; i < 8; i++) {
            x.host(i + 1, i);
        }
        for (int i = 0; i < 40; i++) {
            find(x, i % 8, 0, 1 + i % 9, 1 + i % 20);
        }
        for (int i = 0; i < 30; i++) {
            x.use(i % 10, i % 10, i, i + 2);
        }
        for (int i = 0; i < 10; i++) {
            x.right(i, 9, 1, i, 0, 9);
        }
        spell(x, TWELVE);
        return x;
    }
}
