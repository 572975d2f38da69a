import java.util.ArrayList;
import java.util.HashMap;
import java.util.HashSet;
import java.util.List;
import java.util.Map;
import java.util.Random;
import java.util.Set;
import java.util.TreeMap;
import java.util.regex.Pattern;

/** Long runs of calls, each answer held against a plain model that looks at all there is. */
public final class ModelTest {
    private static final int RUNS = 600;
    private static final int CALLS = 512;

    public static void main(String[] args) {
        Map<String, Integer> seen = new TreeMap<>();
        for (int run = 0; run < RUNS; run++) {
            if (!isRunAsDue(run, seen)) {
                System.exit(1);
            }
        }
        int unseen = dueSeen(seen);
        System.out.println(RUNS * CALLS + " answers are as the model's");
        if (unseen != 0) {
            System.exit(1);
        }
    }

    /** A run that never meets an answer proves nothing of it: each kind of answer must be met. */
    private static int dueSeen(Map<String, Integer> seen) {
        String[] met = {"letter -3", "product -3", "as -4", "rule -3", "rule -7", "host -3",
            "find -3", "find -7", "goes -5", "goes -6", "by -6", "has -2", "use -3", "peak -2",
            "right -3", "may -2", "may fine", "when -2", "when fine", "back -2", "back fine"};
        int unseen = 0;
        for (String kind : met) {
            if (!seen.containsKey(kind)) {
                unseen++;
                System.out.println("no run met: " + kind);
            }
        }
        return unseen;
    }

    private static boolean isRunAsDue(int run, Map<String, Integer> seen) {
        Random random = new Random(run);
        Calls calls = new Calls(random);
        InstallDesk desk = new InstallDesk();
        Model model = new Model();
        List<String> history = new ArrayList<>();
        for (int i = 0; i < CALLS; i++) {
            String name = calls.pick(i);
            int[] a = calls.arguments(name, model);
            int got = onDesk(desk, name, a);
            int want = model.call(name, a);
            history.add(name + java.util.Arrays.toString(a) + " = " + got);
            seen.merge(name + (want < 0 ? " " + want : " fine"), 1, Integer::sum);
            if (got != want) {
                for (String line : history) {
                    System.out.println(line);
                }
                System.out.println("run " + run + ", call " + i + ": due is " + want);
                return false;
            }
        }
        return true;
    }

    private static int onDesk(InstallDesk x, String name, int[] a) {
        switch (name) {
            case "letter": return x.letter(a[0]);
            case "product": return x.product(a[0], a[1], a[2]);
            case "as": return x.as(a[0], a[1]);
            case "rule": return x.rule(a[0], a[1]);
            case "unrule": return x.unrule(a[0]);
            case "fits": return x.fits(a[0], a[1]);
            case "host": return x.host(a[0], a[1]);
            case "moved": return x.moved(a[0], a[1]);
            case "find": return x.find(a[0], a[1], a[2]);
            case "goes": return x.goes(a[0]);
            case "by": return x.by(a[0]);
            case "counts": return x.counts(a[0]);
            case "finds": return x.finds(a[0]);
            case "drop": return x.drop(a[0]);
            case "today": return x.today(a[0]);
            case "kept": return x.kept(a[0]);
            case "has": return x.has(a[0], a[1]);
            case "measure": return x.measure(a[0], a[1]);
            case "all": return x.all(a[0]);
            case "use": return x.use(a[0], a[1], a[2], a[3]);
            case "at": return x.at(a[0], a[1]);
            case "peak": return x.peak(a[0]);
            case "right": return x.right(a[0], a[1], a[2], a[3], a[4], a[5]);
            case "amount": return x.amount(a[0], a[1]);
            case "may": return x.may(a[0], a[1]);
            case "needs": return x.needs();
            case "lack": return x.lack();
            case "cost": return x.cost();
            case "of": return x.of(a[0], a[1] == 1);
            case "without": return x.without(a[0]);
            case "spared": return x.spared(a[0]);
            case "when": return x.when(a[0]);
            case "keep": return x.keep();
            case "back": return x.back();
            default: return x.told(a[0]);
        }
    }

    /** Chooses calls and arguments, mostly such that something comes of them. */
    private static final class Calls {
        private static final String[] MAKING = {"product", "rule", "rule", "rule", "host", "find",
            "find", "find", "find", "use", "use", "right", "right", "letter", "letter", "letter"};
        private static final String[] CHANGING = {"unrule", "drop", "moved", "today", "today",
            "kept", "amount", "keep", "back"};
        private static final String[] ASKING = {"as", "fits", "goes", "by", "counts", "finds",
            "has", "has", "measure", "all", "at", "peak", "may", "may", "needs", "lack", "cost",
            "cost", "of", "without", "spared", "when", "when", "told"};

        private final Random random;
        private final int making;
        private final int changing;
        private final int letters;
        private final int days;
        private final int wrongOneIn;
        // Few days, products and quarrels, so that there is much to match.
        private final boolean rich;

        Calls(Random random) {
            this.random = random;
            rich = random.nextInt(3) > 0;
            making = 15 + random.nextInt(40);
            changing = 1 + random.nextInt(12);
            letters = 1 + random.nextInt(3);
            days = rich ? 12 : random.nextBoolean() ? 40 : 9999;
            wrongOneIn = 10 + random.nextInt(60);
        }

        String pick(int call) {
            if (call < 6) {
                return new String[] {"product", "host", "product", "back", "host", "today"}[call];
            }
            int turn = random.nextInt(100);
            if (turn < making) {
                return MAKING[random.nextInt(MAKING.length)];
            }
            if (turn < making + changing) {
                return CHANGING[random.nextInt(CHANGING.length)];
            }
            return ASKING[random.nextInt(ASKING.length)];
        }

        int[] arguments(String name, Model m) {
            int[] a = right(name, m);
            for (int i = 0; i < a.length; i++) {
                if (random.nextInt(wrongOneIn) == 0 && !name.equals("of")) {
                    a[i] = wrong();
                }
            }
            return a;
        }

        private int wrong() {
            int[] odd = {-1, 0, 1, 2, 4, 8, 9, 10, 11, 12, 16, 28, 29, 30, 40, 41, 64, 65, 80, 81,
                999, 1000, 1001, 1023, 1024, 9999, 10000, Integer.MIN_VALUE, Integer.MAX_VALUE};
            return odd[random.nextInt(odd.length)];
        }

        private int below(int many) {
            return random.nextInt(Math.max(1, many));
        }

        private int day() {
            return days == 9999 ? 9900 + random.nextInt(100) : random.nextInt(days);
        }

        private int today() {
            return rich ? 8 + random.nextInt(30) : day();
        }

        private int sign() {
            int turn = random.nextInt(rich ? 40 : 20);
            return turn == 0 ? 27 : turn == 1 ? 28 : 1 + random.nextInt(letters);
        }

        private int[] right(String name, Model m) {
            int product = below(rich ? Math.min(3, m.s.products.size()) : m.s.products.size());
            int host = below(m.s.hosts.size());
            int find = below(m.s.finds.size());
            int right = below(m.s.rights.size());
            switch (name) {
                case "letter": return new int[] {sign()};
                case "product": return new int[] {below(4), parts(), 1 + below(random.nextInt(4))};
                case "as": return new int[] {product, below(4)};
                case "rule": return new int[] {below(rich ? 10 : 4), product};
                case "unrule": return new int[] {below(m.s.rules.size())};
                case "fits": return new int[] {below(m.s.rules.size()), find};
                case "host": return new int[] {1 + below(64), below(10)};
                case "moved": return new int[] {host, below(10)};
                case "find": return new int[] {host, day(), 1 + below(9)};
                case "goes": case "by": case "counts": case "drop": return new int[] {find};
                case "finds": case "all": return new int[] {below(4)};
                case "today": return new int[] {today()};
                case "kept": return new int[] {(rich ? 20 : 0) + below(40)};
                case "has": return new int[] {host, product};
                case "measure": return new int[] {product, below(4)};
                case "use": return use(product);
                case "at": return new int[] {product, below(30)};
                case "peak": return new int[] {product};
                case "right": return right(product);
                case "amount": return new int[] {right, below(5)};
                case "may": return new int[] {right, host};
                case "of": return new int[] {product, below(2)};
                case "without": return new int[] {right};
                case "spared": return new int[] {host};
                case "when": return new int[] {below(random.nextInt(12))};
                case "told": return new int[] {below(7)};
                default: return new int[0];
            }
        }

        private int parts() {
            return random.nextInt(1024) & random.nextInt(1024);
        }

        private int[] use(int product) {
            int from = below(30);
            return new int[] {below(10), product, from, from + 1 + below(12)};
        }

        private int[] right(int product) {
            int from = day();
            int to = Math.min(9999, from + below(40));
            int version = 1 + below(9);
            return new int[] {product, version, below(4), below(rich ? 1001 : 12), from, to};
        }
    }

    /** What keep keeps: rows of numbers, texts for names and patterns. */
    private static final class State {
        List<int[]> products = new ArrayList<>();
        List<Object[]> rules = new ArrayList<>();
        List<int[]> hosts = new ArrayList<>();
        List<Object[]> finds = new ArrayList<>();
        List<int[]> uses = new ArrayList<>();
        List<int[]> rights = new ArrayList<>();
        int today = 0;
        int kept = 30;

        State copy() {
            State c = new State();
            copyRows(products, c.products);
            c.rules.addAll(rules);
            copyRows(hosts, c.hosts);
            c.finds.addAll(finds);
            copyRows(uses, c.uses);
            copyRows(rights, c.rights);
            c.today = today;
            c.kept = kept;
            return c;
        }

        private static void copyRows(List<int[]> from, List<int[]> to) {
            for (int[] row : from) {
                to.add(row.clone());
            }
        }
    }

    /** The document, word by word, without regard for speed. */
    private static final class Model {
        State s = new State();
        private State keptState = null;
        private List<Integer> waiting = new ArrayList<>();
        private int findings = 0;

        int call(String name, int[] a) {
            int answer = answer(name, a);
            if (answer < 0) {
                findings++;
            }
            return answer;
        }

        private int answer(String name, int[] a) {
            switch (name) {
                case "letter": return letter(a[0]);
                case "product": return product(a[0], a[1], a[2]);
                case "as": return as(a[0], a[1]);
                case "rule": return rule(a[0], a[1]);
                case "host": return host(a[0], a[1]);
                case "moved": return moved(a[0], a[1]);
                case "find": return find(a[0], a[1], a[2]);
                case "finds": return finds(a[0]);
                case "today": return today(a[0]);
                case "kept": return kept(a[0]);
                case "has": return has(a[0], a[1]);
                case "measure": return measure(a[0], a[1]);
                case "all": return all(a[0]);
                case "use": return use(a[0], a[1], a[2], a[3]);
                case "at": return at(a[0], a[1]);
                case "peak": return peak(a[0]);
                case "right": return right(a);
                case "amount": return amount(a[0], a[1]);
                case "may": return may(a[0], a[1]);
                case "unrule": case "fits": case "goes": case "by": case "counts": case "drop":
                    return named(name, a);
                default: return matched(name, a);
            }
        }

        private int named(String name, int[] a) {
            boolean isRule = name.equals("unrule") || name.equals("fits");
            if (isRule && !in(a[0], 0, s.rules.size() - 1)) {
                return -1;
            }
            if (name.equals("unrule")) {
                s.rules.remove(a[0]);
                return s.rules.size();
            }
            int find = name.equals("fits") ? a[1] : a[0];
            if (!in(find, 0, s.finds.size() - 1)) {
                return -1;
            }
            switch (name) {
                case "fits": return fits(s.rules.get(a[0]), s.finds.get(find)) ? 1 : 0;
                case "goes": return goes(s.finds.get(find));
                case "by": return by(s.finds.get(find));
                case "counts": return counts(s.finds.get(find)) ? 1 : 0;
                default:
                    s.finds.remove(find);
                    return s.finds.size();
            }
        }

        private int matched(String name, int[] a) {
            switch (name) {
                case "needs": return needs(-1).size();
                case "lack": return best(needs(-1), s.today, -1)[0];
                case "cost": return best(needs(-1), s.today, -1)[1];
                case "of": return of(a[0], a[1] == 1);
                case "without":
                    return in(a[0], 0, s.rights.size() - 1) ? best(needs(-1), s.today, a[0])[0] : -1;
                case "spared":
                    return in(a[0], 0, s.hosts.size() - 1) ? best(needs(a[0]), s.today, -1)[0] : -1;
                case "when": return when(a[0]);
                case "keep":
                    keptState = s.copy();
                    return s.finds.size();
                case "back": return back();
                default: return told(a[0]);
            }
        }

        private static boolean in(int v, int least, int most) {
            return least <= v && v <= most;
        }

        private int letter(int v) {
            if (!in(v, 1, 28)) {
                return -1;
            }
            if (waiting.size() == 12) {
                return -3;
            }
            waiting.add(v);
            return waiting.size();
        }

        private int product(int kind, int parts, int least) {
            if (!in(kind, 0, 3)) {
                return -1;
            }
            if (kind % 2 == 1 && (!in(parts, 0, 1023) || !in(least, 1, 10))) {
                return -1;
            }
            return added(s.products, 10, kind, parts, least);
        }

        private static int added(List<int[]> rows, int most, int... row) {
            if (rows.size() == most) {
                return -3;
            }
            rows.add(row.clone());
            return rows.size() - 1;
        }

        private boolean isProduct(int v) {
            return in(v, 0, s.products.size() - 1);
        }

        private int as(int product, int kind) {
            if (!isProduct(product) || !in(kind, 0, 3)) {
                return -1;
            }
            int[] over = {-1, 0, 0, 1};
            int k = s.products.get(product)[0];
            while (k != -1 && k != kind) {
                k = over[k];
            }
            return k == kind ? product : -4;
        }

        private int rule(int rank, int product) {
            if (!isProduct(product) || !in(rank, 0, 9)) {
                return -1;
            }
            if (s.rules.size() == 16) {
                return -3;
            }
            List<Integer> signs = waiting;
            waiting = new ArrayList<>();
            int many = signs.indexOf(28);
            if (many >= 0 && many != signs.size() - 1) {
                return -7;
            }
            s.rules.add(new Object[] {Pattern.compile(regex(signs)), rank, product});
            return s.rules.size() - 1;
        }

        private static String regex(List<Integer> signs) {
            StringBuilder b = new StringBuilder();
            for (int sign : signs) {
                b.append(sign == 27 ? "." : sign == 28 ? ".*" : "" + (char) ('a' + sign - 1));
            }
            return b.toString();
        }

        private static boolean fits(Object[] rule, Object[] find) {
            return ((Pattern) rule[0]).matcher((String) find[0]).matches();
        }

        private int host(int cores, int person) {
            if (!in(cores, 1, 64) || !in(person, 0, 9)) {
                return -1;
            }
            return added(s.hosts, 8, cores, person);
        }

        private int moved(int host, int person) {
            if (!in(host, 0, s.hosts.size() - 1) || !in(person, 0, 9)) {
                return -1;
            }
            int was = s.hosts.get(host)[1];
            s.hosts.get(host)[1] = person;
            return was;
        }

        private int find(int host, int day, int version) {
            if (!in(host, 0, s.hosts.size() - 1) || !in(day, 0, 9999) || !in(version, 1, 9)) {
                return -1;
            }
            if (s.finds.size() == 40) {
                return -3;
            }
            List<Integer> signs = waiting;
            waiting = new ArrayList<>();
            if (signs.contains(27) || signs.contains(28)) {
                return -7;
            }
            s.finds.add(new Object[] {regex(signs), host, day, version});
            return s.finds.size() - 1;
        }

        private int goes(Object[] find) {
            int rank = leastRank(find);
            Set<Integer> told = new HashSet<>();
            for (Object[] rule : s.rules) {
                if (fits(rule, find) && (int) rule[1] == rank) {
                    told.add((int) rule[2]);
                }
            }
            return told.isEmpty() ? -6 : told.size() > 1 ? -5 : told.iterator().next();
        }

        private int leastRank(Object[] find) {
            int rank = 10;
            for (Object[] rule : s.rules) {
                if (fits(rule, find)) {
                    rank = Math.min(rank, (int) rule[1]);
                }
            }
            return rank;
        }

        private int by(Object[] find) {
            int rank = leastRank(find);
            for (int i = 0; i < s.rules.size(); i++) {
                if (fits(s.rules.get(i), find) && (int) s.rules.get(i)[1] == rank) {
                    return i;
                }
            }
            return -6;
        }

        private boolean counts(Object[] find) {
            int day = (int) find[2];
            return goes(find) >= 0 && day <= s.today && day >= s.today - s.kept;
        }

        private int finds(int what) {
            if (!in(what, 0, 3)) {
                return -1;
            }
            int sum = 0;
            for (Object[] find : s.finds) {
                int goal = goes(find);
                boolean is = what == 0 ? goal >= 0 : what == 1 ? goal == -5
                    : what == 2 ? goal == -6 : counts(find);
                sum += is ? 1 : 0;
            }
            return sum;
        }

        private int today(int day) {
            int was = s.today;
            if (!in(day, 0, 9999)) {
                return -1;
            }
            s.today = day;
            return was;
        }

        private int kept(int days) {
            int was = s.kept;
            if (!in(days, 0, 999)) {
                return -1;
            }
            s.kept = days;
            return was;
        }

        /** Product to version, of one host. */
        private Map<Integer, Integer> had(int host) {
            Map<Integer, Integer> had = new HashMap<>();
            for (Object[] find : s.finds) {
                if ((int) find[1] == host && counts(find)) {
                    had.merge(goes(find), (int) find[3], Math::max);
                }
            }
            for (int suite = 0; suite < s.products.size(); suite++) {
                int[] p = s.products.get(suite);
                if (p[0] == 1 || p[0] == 3) {
                    suite(had, suite, p);
                }
            }
            return had;
        }

        private static void suite(Map<Integer, Integer> had, int suite, int[] p) {
            List<Integer> parts = new ArrayList<>();
            int greatest = 0;
            for (int part = 0; part < 10; part++) {
                if (part != suite && (p[1] & 1 << part) != 0 && had.containsKey(part)) {
                    parts.add(part);
                    greatest = Math.max(greatest, had.get(part));
                }
            }
            if (parts.size() >= p[2]) {
                had.merge(suite, greatest, Math::max);
                if (p[0] != 3) {
                    had.keySet().removeAll(parts);
                }
            }
        }

        private int has(int host, int product) {
            if (!in(host, 0, s.hosts.size() - 1) || !isProduct(product)) {
                return -1;
            }
            return had(host).getOrDefault(product, -2);
        }

        private int measure(int product, int measure) {
            if (!isProduct(product) || !in(measure, 0, 3)) {
                return -1;
            }
            int most = 0;
            for (int tick = 0; tick <= 999; tick++) {
                most = Math.max(most, at(product, tick));
            }
            int hosts = 0;
            int eights = 0;
            Set<Integer> persons = new HashSet<>();
            for (int host = 0; host < s.hosts.size(); host++) {
                if (had(host).containsKey(product)) {
                    hosts++;
                    eights += (int) Math.ceil(s.hosts.get(host)[0] / 8.0);
                    persons.add(s.hosts.get(host)[1]);
                }
            }
            return new int[] {hosts, persons.size(), eights, most}[measure];
        }

        private int all(int measure) {
            if (!in(measure, 0, 3)) {
                return -1;
            }
            int sum = 0;
            for (int product = 0; product < s.products.size(); product++) {
                sum += measure(product, measure);
            }
            return sum;
        }

        private int use(int person, int product, int from, int to) {
            if (!in(person, 0, 9) || !isProduct(product)) {
                return -1;
            }
            if (!in(from, 0, 999) || !in(to, 0, 999) || from >= to) {
                return -1;
            }
            return added(s.uses, 30, person, product, from, to);
        }

        private int at(int product, int tick) {
            if (!isProduct(product) || !in(tick, 0, 999)) {
                return -1;
            }
            int sum = 0;
            for (int[] use : s.uses) {
                sum += use[1] == product && use[2] <= tick && tick < use[3] ? 1 : 0;
            }
            return sum;
        }

        private int peak(int product) {
            if (!isProduct(product)) {
                return -1;
            }
            int peak = -2;
            int most = 0;
            for (int tick = 0; tick <= 999; tick++) {
                if (at(product, tick) > most) {
                    most = at(product, tick);
                    peak = tick;
                }
            }
            return peak;
        }

        private int right(int[] a) {
            if (!isProduct(a[0]) || !in(a[1], 1, 9) || !in(a[2], 0, 40) || !in(a[3], 0, 1000)) {
                return -1;
            }
            if (!in(a[4], 0, 9999) || !in(a[5], 0, 9999) || a[4] > a[5]) {
                return -1;
            }
            return added(s.rights, 10, a);
        }

        private int amount(int right, int v) {
            if (!in(right, 0, s.rights.size() - 1) || !in(v, 0, 40)) {
                return -1;
            }
            int was = s.rights.get(right)[2];
            s.rights.get(right)[2] = v;
            return was;
        }

        private int may(int right, int host) {
            if (!in(right, 0, s.rights.size() - 1) || !in(host, 0, s.hosts.size() - 1)) {
                return -1;
            }
            for (int[] need : needs(-1)) {
                if (need[0] == host && need[1] == s.rights.get(right)[0]) {
                    return serves(s.rights.get(right), need, s.today) ? 1 : 0;
                }
            }
            return -2;
        }

        private static boolean serves(int[] right, int[] need, int day) {
            return right[0] == need[1] && right[1] >= need[2] && in(day, right[4], right[5]);
        }

        /** Host, product, version of each need but those of one host. */
        private List<int[]> needs(int withoutHost) {
            List<int[]> needs = new ArrayList<>();
            for (int host = 0; host < s.hosts.size(); host++) {
                for (Map.Entry<Integer, Integer> e : had(host).entrySet()) {
                    if (host != withoutHost && s.products.get(e.getKey())[0] != 2) {
                        needs.add(new int[] {host, e.getKey(), e.getValue()});
                    }
                }
            }
            return needs;
        }

        /** The lack and the cost: product by product, as no right is of two. */
        private int[] best(List<int[]> needs, int day, int withoutRight) {
            int[] sum = {0, 0};
            for (int product = 0; product < 10; product++) {
                List<int[]> some = new ArrayList<>();
                for (int[] need : needs) {
                    if (need[1] == product) {
                        some.add(need);
                    }
                }
                int[] left = new int[s.rights.size()];
                for (int r = 0; r < left.length; r++) {
                    left[r] = r == withoutRight ? 0 : Math.min(some.size(), s.rights.get(r)[2]);
                }
                int[] best = tryAll(some, 0, left, day, new HashMap<>());
                sum[0] += best[0];
                sum[1] += best[1];
            }
            return sum;
        }

        private int[] tryAll(List<int[]> needs, int i, int[] left, int day, Map<String, int[]> known) {
            if (i == needs.size()) {
                return new int[] {0, 0};
            }
            String key = i + java.util.Arrays.toString(left);
            if (known.containsKey(key)) {
                return known.get(key);
            }
            int[] rest = tryAll(needs, i + 1, left, day, known);
            int[] best = {rest[0] + 1, rest[1]};
            for (int r = 0; r < left.length; r++) {
                if (left[r] > 0 && serves(s.rights.get(r), needs.get(i), day)) {
                    left[r]--;
                    int[] then = tryAll(needs, i + 1, left, day, known);
                    left[r]++;
                    int price = then[1] + s.rights.get(r)[3];
                    if (then[0] < best[0] || then[0] == best[0] && price < best[1]) {
                        best = new int[] {then[0], price};
                    }
                }
            }
            known.put(key, best);
            return best;
        }

        private int of(int product, boolean cost) {
            if (!isProduct(product)) {
                return -1;
            }
            List<int[]> needs = needs(-1);
            needs.removeIf(need -> need[1] != product);
            return best(needs, s.today, -1)[cost ? 1 : 0];
        }

        private int when(int lack) {
            if (!in(lack, 0, 80)) {
                return -1;
            }
            List<int[]> needs = needs(-1);
            // Days on which the same rights are open lack the same.
            Map<String, Integer> known = new HashMap<>();
            for (int day = s.today; day <= 9999; day++) {
                StringBuilder open = new StringBuilder();
                for (int[] right : s.rights) {
                    open.append(in(day, right[4], right[5]) ? '1' : '0');
                }
                String key = open.toString();
                if (!known.containsKey(key)) {
                    known.put(key, best(needs, day, -1)[0]);
                }
                if (known.get(key) > lack) {
                    return day;
                }
            }
            return -2;
        }

        private int back() {
            if (keptState == null) {
                return -2;
            }
            s = keptState.copy();
            return s.finds.size();
        }

        private int told(int what) {
            int[] counts = {s.products.size(), s.rules.size(), s.hosts.size(), s.uses.size(),
                s.rights.size(), findings, waiting.size()};
            return in(what, 0, 6) ? counts[what] : -1;
        }
    }
}
