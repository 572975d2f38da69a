import java.util.Arrays;

/**
 * A desk that tells what is installed: names found on hosts led to products by rules of ranks,
 * suites made of their parts, finds that are too old, counts by hosts, persons, cores and uses at
 * once, and rights with versions, days and prices matched to what is there so that least lacks and
 * then least is paid.
 */
public final class InstallDesk {
    private static final int BEYOND = -1;
    private static final int NONE = -2;
    private static final int FULL = -3;
    private static final int KIND = -4;
    private static final int QUARREL = -5;
    private static final int UNREAD = -6;
    private static final int SIZE = -7;

    private static final int MOST_LETTERS = 12;
    private static final int MOST_PRODUCTS = 10;
    private static final int MOST_RULES = 16;
    private static final int MOST_HOSTS = 8;
    private static final int MOST_FINDS = 40;
    private static final int MOST_USES = 30;
    private static final int MOST_RIGHTS = 10;

    private static final int LAST_LETTER = 26;
    private static final int ANY_LETTER = 27;
    private static final int ANY_LETTERS = 28;
    private static final int SIGN_BITS = 5;
    private static final int SIGN_MASK = 31;

    private static final int PLAIN = 0;
    private static final int SUITE = 1;
    private static final int FREE = 2;
    private static final int PARTED = 3;

    private static final int ALL_PARTS = 1023;
    private static final int MOST_LEAST = 10;
    private static final int LAST_RANK = 9;
    private static final int MOST_CORES = 64;
    private static final int CORES_AT_ONCE = 8;
    private static final int LAST_PERSON = 9;
    private static final int LAST_DAY = 9999;
    private static final int LAST_VERSION = 9;
    private static final int MOST_KEPT_DAYS = 999;
    private static final int FIRST_KEPT_DAYS = 30;
    private static final int LAST_TICK = 999;
    private static final int MOST_AMOUNT = 40;
    private static final int MOST_PRICE = 1000;
    private static final int MOST_LACK = 80;

    private static final int THAT_GO = 0;
    private static final int THAT_QUARREL = 1;
    private static final int THAT_ARE_UNREAD = 2;
    private static final int THAT_COUNT = 3;

    private static final int BY_HOSTS = 0;
    private static final int BY_PERSONS = 1;
    private static final int BY_CORES = 2;
    private static final int BY_USES = 3;

    private final Letters letters = new Letters();
    private final Books books = new Books();
    private final Books saved = new Books();
    private final Holdings holdings = new Holdings();
    private final Match match = new Match();
    private boolean anySaved;
    private int findingsTold;

    public InstallDesk() {
    }

    // ---- letters, rules, products

    public int letter(int v) {
        if (!isWithin(v, 1, ANY_LETTERS)) {
            return finding(BEYOND);
        }
        if (letters.count >= MOST_LETTERS) {
            return finding(FULL);
        }
        letters.add(v);
        return letters.count;
    }

    public int product(int kind, int parts, int least) {
        if (!isKind(kind)) {
            return finding(BEYOND);
        }
        boolean suite = isUnder(kind, SUITE);
        if (suite && !(isWithin(parts, 0, ALL_PARTS) && isWithin(least, 1, MOST_LEAST))) {
            return finding(BEYOND);
        }
        if (books.products.count >= MOST_PRODUCTS) {
            return finding(FULL);
        }
        return books.products.add(kind, parts, least);
    }

    public int as(int product, int kind) {
        if (!books.products.isOne(product) || !isKind(kind)) {
            return finding(BEYOND);
        }
        return isUnder(books.products.kinds[product], kind) ? product : finding(KIND);
    }

    public int rule(int rank, int product) {
        if (!books.products.isOne(product) || !isWithin(rank, 0, LAST_RANK)) {
            return finding(BEYOND);
        }
        if (books.rules.count >= MOST_RULES) {
            return finding(FULL);
        }
        boolean pattern = letters.arePattern();
        long row = letters.take();
        return pattern ? books.rules.add(row, rank, product) : finding(SIZE);
    }

    public int unrule(int rule) {
        if (!books.rules.isOne(rule)) {
            return finding(BEYOND);
        }
        books.rules.remove(rule);
        return books.rules.count;
    }

    public int fits(int rule, int find) {
        if (!books.rules.isOne(rule) || !books.finds.isOne(find)) {
            return finding(BEYOND);
        }
        return books.isFitting(rule, find) ? 1 : 0;
    }

    // ---- hosts, finds

    public int host(int cores, int person) {
        if (!isWithin(cores, 1, MOST_CORES) || !isWithin(person, 0, LAST_PERSON)) {
            return finding(BEYOND);
        }
        if (books.hosts.count >= MOST_HOSTS) {
            return finding(FULL);
        }
        return books.hosts.add(cores, person);
    }

    public int moved(int host, int person) {
        if (!books.hosts.isOne(host) || !isWithin(person, 0, LAST_PERSON)) {
            return finding(BEYOND);
        }
        int before = books.hosts.persons[host];
        books.hosts.persons[host] = person;
        return before;
    }

    public int find(int host, int day, int version) {
        if (!books.hosts.isOne(host) || !isDay(day) || !isVersion(version)) {
            return finding(BEYOND);
        }
        if (books.finds.count >= MOST_FINDS) {
            return finding(FULL);
        }
        boolean name = letters.areName();
        long row = letters.take();
        return name ? books.finds.add(row, host, day, version) : finding(SIZE);
    }

    public int goes(int find) {
        if (!books.finds.isOne(find)) {
            return finding(BEYOND);
        }
        int goal = books.goalOf(find);
        return goal < 0 ? finding(goal) : goal;
    }

    public int by(int find) {
        if (!books.finds.isOne(find)) {
            return finding(BEYOND);
        }
        int first = books.firstRuleOf(find);
        return first < 0 ? finding(first) : first;
    }

    public int counts(int find) {
        if (!books.finds.isOne(find)) {
            return finding(BEYOND);
        }
        return books.isCounted(find) ? 1 : 0;
    }

    public int finds(int what) {
        if (!isWithin(what, THAT_GO, THAT_COUNT)) {
            return finding(BEYOND);
        }
        int sum = 0;
        for (int find = 0; find < books.finds.count; find++) {
            if (books.isOfSort(find, what)) {
                sum++;
            }
        }
        return sum;
    }

    public int drop(int find) {
        if (!books.finds.isOne(find)) {
            return finding(BEYOND);
        }
        books.finds.remove(find);
        return books.finds.count;
    }

    public int today(int day) {
        if (!isDay(day)) {
            return finding(BEYOND);
        }
        int before = books.dayNow;
        books.dayNow = day;
        return before;
    }

    public int kept(int days) {
        if (!isWithin(days, 0, MOST_KEPT_DAYS)) {
            return finding(BEYOND);
        }
        int before = books.keptDays;
        books.keptDays = days;
        return before;
    }

    public int has(int host, int product) {
        if (!books.hosts.isOne(host) || !books.products.isOne(product)) {
            return finding(BEYOND);
        }
        holdings.fill(books);
        int version = holdings.versionAt(host, product);
        return version == 0 ? finding(NONE) : version;
    }

    public int measure(int product, int measure) {
        if (!books.products.isOne(product) || !isMeasure(measure)) {
            return finding(BEYOND);
        }
        holdings.fill(books);
        return measured(product, measure);
    }

    public int all(int measure) {
        if (!isMeasure(measure)) {
            return finding(BEYOND);
        }
        holdings.fill(books);
        int sum = 0;
        for (int product = 0; product < books.products.count; product++) {
            sum += measured(product, measure);
        }
        return sum;
    }

    // ---- uses

    public int use(int person, int product, int from, int to) {
        boolean ticks = isTick(from) && isTick(to) && from < to;
        if (!isWithin(person, 0, LAST_PERSON) || !books.products.isOne(product) || !ticks) {
            return finding(BEYOND);
        }
        if (books.uses.count >= MOST_USES) {
            return finding(FULL);
        }
        return books.uses.add(person, product, from, to);
    }

    public int at(int product, int tick) {
        if (!books.products.isOne(product) || !isTick(tick)) {
            return finding(BEYOND);
        }
        return books.uses.howManyAt(product, tick);
    }

    public int peak(int product) {
        if (!books.products.isOne(product)) {
            return finding(BEYOND);
        }
        int tick = books.uses.peakTick(product);
        return tick < 0 ? finding(NONE) : tick;
    }

    // ---- rights

    public int right(int product, int version, int amount, int price, int from, int to) {
        boolean days = isDay(from) && isDay(to) && from <= to;
        if (!books.products.isOne(product) || !isVersion(version) || !days) {
            return finding(BEYOND);
        }
        if (!isWithin(amount, 0, MOST_AMOUNT) || !isWithin(price, 0, MOST_PRICE)) {
            return finding(BEYOND);
        }
        if (books.rights.count >= MOST_RIGHTS) {
            return finding(FULL);
        }
        return books.rights.add(product, version, amount, price, from, to);
    }

    public int amount(int right, int v) {
        if (!books.rights.isOne(right) || !isWithin(v, 0, MOST_AMOUNT)) {
            return finding(BEYOND);
        }
        int before = books.rights.amounts[right];
        books.rights.amounts[right] = v;
        return before;
    }

    public int may(int right, int host) {
        if (!books.rights.isOne(right) || !books.hosts.isOne(host)) {
            return finding(BEYOND);
        }
        holdings.fill(books);
        int product = books.rights.products[right];
        int version = holdings.versionAt(host, product);
        if (version == 0 || books.products.isFree(product)) {
            return finding(NONE);
        }
        return books.rights.isServing(right, version, books.dayNow) ? 1 : 0;
    }

    public int needs() {
        holdings.fill(books);
        int sum = 0;
        for (int product = 0; product < books.products.count; product++) {
            if (!books.products.isFree(product)) {
                sum += measured(product, BY_HOSTS);
            }
        }
        return sum;
    }

    public int lack() {
        holdings.fill(books);
        return lackOn(books.dayNow);
    }

    public int cost() {
        holdings.fill(books);
        match.begin(books.rights, books.dayNow);
        match.serveAll(books, holdings);
        return match.paid;
    }

    public int of(int product, boolean cost) {
        if (!books.products.isOne(product)) {
            return finding(BEYOND);
        }
        holdings.fill(books);
        match.begin(books.rights, books.dayNow);
        match.serveProduct(books, holdings, product);
        return cost ? match.paid : match.lacking;
    }

    public int without(int right) {
        if (!books.rights.isOne(right)) {
            return finding(BEYOND);
        }
        holdings.fill(books);
        match.begin(books.rights, books.dayNow);
        match.leaveOut(right);
        match.serveAll(books, holdings);
        return match.lacking;
    }

    public int spared(int host) {
        if (!books.hosts.isOne(host)) {
            return finding(BEYOND);
        }
        holdings.fill(books);
        holdings.leaveOut(host);
        return lackOn(books.dayNow);
    }

    public int when(int lack) {
        if (!isWithin(lack, 0, MOST_LACK)) {
            return finding(BEYOND);
        }
        holdings.fill(books);
        int day = firstDayAbove(lack);
        return day > LAST_DAY ? finding(NONE) : day;
    }

    // ---- the whole

    public int keep() {
        saved.copyFrom(books);
        anySaved = true;
        return books.finds.count;
    }

    public int back() {
        if (!anySaved) {
            return finding(NONE);
        }
        books.copyFrom(saved);
        return books.finds.count;
    }

    public int told(int what) {
        switch (what) {
            case 0: return books.products.count;
            case 1: return books.rules.count;
            case 2: return books.hosts.count;
            case 3: return books.uses.count;
            case 4: return books.rights.count;
            case 5: return findingsTold;
            case 6: return letters.count;
            default: return finding(BEYOND);
        }
    }

    private int finding(int which) {
        findingsTold++;
        return which;
    }

    // Holdings must be filled before this is asked.
    private int measured(int product, int measure) {
        switch (measure) {
            case BY_HOSTS: return holdings.howManyHosts(books.hosts, product);
            case BY_PERSONS: return holdings.howManyPersons(books.hosts, product);
            case BY_CORES: return holdings.coresByEight(books.hosts, product);
            default: return books.uses.most(product);
        }
    }

    // Holdings must be filled before this is asked.
    private int lackOn(int day) {
        match.begin(books.rights, day);
        match.serveAll(books, holdings);
        return match.lacking;
    }

    // The lack grows only on a day behind a right's last one, so no other days need a look.
    private int firstDayAbove(int lack) {
        if (lackOn(books.dayNow) > lack) {
            return books.dayNow;
        }
        int first = LAST_DAY + 1;
        for (int right = 0; right < books.rights.count; right++) {
            int day = books.rights.lastDays[right] + 1;
            if (day > books.dayNow && day < first && lackOn(day) > lack) {
                first = day;
            }
        }
        return first;
    }

    private static boolean isWithin(int v, int least, int most) {
        return v >= least && v <= most;
    }

    private static boolean isKind(int v) {
        return isWithin(v, PLAIN, PARTED);
    }

    private static boolean isDay(int v) {
        return isWithin(v, 0, LAST_DAY);
    }

    private static boolean isVersion(int v) {
        return isWithin(v, 1, LAST_VERSION);
    }

    private static boolean isTick(int v) {
        return isWithin(v, 0, LAST_TICK);
    }

    private static boolean isMeasure(int v) {
        return isWithin(v, BY_HOSTS, BY_USES);
    }

    private static boolean isUnder(int kind, int upper) {
        return kind == upper || upper == PLAIN || (upper == SUITE && kind == PARTED);
    }

    // A row of signs is one long, five bits a sign, the first lowest: no sign is 0, so 0 ends it.
    private static int signAt(long row, int place) {
        return (int) (row >>> (SIGN_BITS * place)) & SIGN_MASK;
    }

    /** The letters and signs that wait. */
    private static final class Letters {
        private int count;
        private long row;

        private void add(int sign) {
            row |= (long) sign << (SIGN_BITS * count);
            count++;
        }

        private long take() {
            long taken = row;
            row = 0L;
            count = 0;
            return taken;
        }

        private boolean areName() {
            for (int place = 0; place < count; place++) {
                if (signAt(row, place) > LAST_LETTER) {
                    return false;
                }
            }
            return true;
        }

        private boolean arePattern() {
            for (int place = 0; place < count - 1; place++) {
                if (signAt(row, place) == ANY_LETTERS) {
                    return false;
                }
            }
            return true;
        }
    }

    /** The products, a column for each thing known of them. */
    private static final class Products {
        private int count;
        private final int[] kinds = new int[MOST_PRODUCTS];
        private final int[] parts = new int[MOST_PRODUCTS];
        private final int[] leasts = new int[MOST_PRODUCTS];

        private boolean isOne(int product) {
            return product >= 0 && product < count;
        }

        private boolean isFree(int product) {
            return kinds[product] == FREE;
        }

        private boolean isSuite(int product) {
            return isUnder(kinds[product], SUITE);
        }

        private int add(int kind, int partSet, int least) {
            kinds[count] = kind;
            parts[count] = partSet;
            leasts[count] = least;
            count++;
            return count - 1;
        }

        private void copyFrom(Products other) {
            count = other.count;
            System.arraycopy(other.kinds, 0, kinds, 0, MOST_PRODUCTS);
            System.arraycopy(other.parts, 0, parts, 0, MOST_PRODUCTS);
            System.arraycopy(other.leasts, 0, leasts, 0, MOST_PRODUCTS);
        }
    }

    /** The rules that lead names to products. */
    private static final class Rules {
        private int count;
        private final long[] patterns = new long[MOST_RULES];
        private final int[] ranks = new int[MOST_RULES];
        private final int[] products = new int[MOST_RULES];

        private boolean isOne(int rule) {
            return rule >= 0 && rule < count;
        }

        private int add(long pattern, int rank, int product) {
            patterns[count] = pattern;
            ranks[count] = rank;
            products[count] = product;
            count++;
            return count - 1;
        }

        private void remove(int rule) {
            for (int i = rule; i + 1 < count; i++) {
                patterns[i] = patterns[i + 1];
                ranks[i] = ranks[i + 1];
                products[i] = products[i + 1];
            }
            count--;
        }

        private void copyFrom(Rules other) {
            count = other.count;
            System.arraycopy(other.patterns, 0, patterns, 0, MOST_RULES);
            System.arraycopy(other.ranks, 0, ranks, 0, MOST_RULES);
            System.arraycopy(other.products, 0, products, 0, MOST_RULES);
        }
    }

    /** The hosts. */
    private static final class Hosts {
        private int count;
        private final int[] cores = new int[MOST_HOSTS];
        private final int[] persons = new int[MOST_HOSTS];

        private boolean isOne(int host) {
            return host >= 0 && host < count;
        }

        private int add(int coreCount, int person) {
            cores[count] = coreCount;
            persons[count] = person;
            count++;
            return count - 1;
        }

        private void copyFrom(Hosts other) {
            count = other.count;
            System.arraycopy(other.cores, 0, cores, 0, MOST_HOSTS);
            System.arraycopy(other.persons, 0, persons, 0, MOST_HOSTS);
        }
    }

    /** The finds: names seen on hosts. */
    private static final class Finds {
        private int count;
        private final long[] names = new long[MOST_FINDS];
        private final int[] hosts = new int[MOST_FINDS];
        private final int[] days = new int[MOST_FINDS];
        private final int[] versions = new int[MOST_FINDS];

        private boolean isOne(int find) {
            return find >= 0 && find < count;
        }

        private int add(long name, int host, int day, int version) {
            names[count] = name;
            hosts[count] = host;
            days[count] = day;
            versions[count] = version;
            count++;
            return count - 1;
        }

        private void remove(int find) {
            for (int i = find; i + 1 < count; i++) {
                names[i] = names[i + 1];
                hosts[i] = hosts[i + 1];
                days[i] = days[i + 1];
                versions[i] = versions[i + 1];
            }
            count--;
        }

        private void copyFrom(Finds other) {
            count = other.count;
            System.arraycopy(other.names, 0, names, 0, MOST_FINDS);
            System.arraycopy(other.hosts, 0, hosts, 0, MOST_FINDS);
            System.arraycopy(other.days, 0, days, 0, MOST_FINDS);
            System.arraycopy(other.versions, 0, versions, 0, MOST_FINDS);
        }
    }

    /** The uses of products by persons. */
    private static final class Uses {
        private int count;
        private final int[] persons = new int[MOST_USES];
        private final int[] products = new int[MOST_USES];
        private final int[] starts = new int[MOST_USES];
        private final int[] ends = new int[MOST_USES];

        private int add(int person, int product, int start, int end) {
            persons[count] = person;
            products[count] = product;
            starts[count] = start;
            ends[count] = end;
            count++;
            return count - 1;
        }

        private int howManyAt(int product, int tick) {
            int sum = 0;
            for (int i = 0; i < count; i++) {
                if (products[i] == product && starts[i] <= tick && tick < ends[i]) {
                    sum++;
                }
            }
            return sum;
        }

        // Uses grow in number only where one starts, so the first peak is at a start.
        private int peakTick(int product) {
            int peak = NONE;
            int peakUses = 0;
            for (int i = 0; i < count; i++) {
                if (products[i] == product) {
                    int uses = howManyAt(product, starts[i]);
                    if (uses > peakUses || (uses == peakUses && starts[i] < peak)) {
                        peak = starts[i];
                        peakUses = uses;
                    }
                }
            }
            return peak;
        }

        private int most(int product) {
            int tick = peakTick(product);
            return tick < 0 ? 0 : howManyAt(product, tick);
        }

        private void copyFrom(Uses other) {
            count = other.count;
            System.arraycopy(other.persons, 0, persons, 0, MOST_USES);
            System.arraycopy(other.products, 0, products, 0, MOST_USES);
            System.arraycopy(other.starts, 0, starts, 0, MOST_USES);
            System.arraycopy(other.ends, 0, ends, 0, MOST_USES);
        }
    }

    /** The rights to have products. */
    private static final class Rights {
        private int count;
        private final int[] products = new int[MOST_RIGHTS];
        private final int[] versions = new int[MOST_RIGHTS];
        private final int[] amounts = new int[MOST_RIGHTS];
        private final int[] prices = new int[MOST_RIGHTS];
        private final int[] firstDays = new int[MOST_RIGHTS];
        private final int[] lastDays = new int[MOST_RIGHTS];

        private boolean isOne(int right) {
            return right >= 0 && right < count;
        }

        private boolean isServing(int right, int version, int day) {
            return versions[right] >= version && isWithin(day, firstDays[right], lastDays[right]);
        }

        private int add(int product, int version, int many, int price, int first, int last) {
            products[count] = product;
            versions[count] = version;
            amounts[count] = many;
            prices[count] = price;
            firstDays[count] = first;
            lastDays[count] = last;
            count++;
            return count - 1;
        }

        private void copyFrom(Rights other) {
            count = other.count;
            System.arraycopy(other.products, 0, products, 0, MOST_RIGHTS);
            System.arraycopy(other.versions, 0, versions, 0, MOST_RIGHTS);
            System.arraycopy(other.amounts, 0, amounts, 0, MOST_RIGHTS);
            System.arraycopy(other.prices, 0, prices, 0, MOST_RIGHTS);
            System.arraycopy(other.firstDays, 0, firstDays, 0, MOST_RIGHTS);
            System.arraycopy(other.lastDays, 0, lastDays, 0, MOST_RIGHTS);
        }
    }

    /** All that is kept and brought back as one. */
    private static final class Books {
        private final Products products = new Products();
        private final Rules rules = new Rules();
        private final Hosts hosts = new Hosts();
        private final Finds finds = new Finds();
        private final Uses uses = new Uses();
        private final Rights rights = new Rights();
        private int dayNow;
        private int keptDays = FIRST_KEPT_DAYS;

        private boolean isFitting(int rule, int find) {
            long pattern = rules.patterns[rule];
            long name = finds.names[find];
            for (int place = 0; place < MOST_LETTERS; place++) {
                int sign = signAt(pattern, place);
                int letter = signAt(name, place);
                if (sign == ANY_LETTERS) {
                    return true;
                }
                if (sign == 0 || letter == 0) {
                    return sign == letter;
                }
                if (sign != ANY_LETTER && sign != letter) {
                    return false;
                }
            }
            return true;
        }

        private int firstRuleOf(int find) {
            int first = UNREAD;
            for (int rule = 0; rule < rules.count; rule++) {
                boolean before = first < 0 || rules.ranks[rule] < rules.ranks[first];
                if (before && isFitting(rule, find)) {
                    first = rule;
                }
            }
            return first;
        }

        private int goalOf(int find) {
            int first = firstRuleOf(find);
            if (first < 0) {
                return UNREAD;
            }
            for (int rule = first + 1; rule < rules.count; rule++) {
                boolean unlike = rules.ranks[rule] == rules.ranks[first]
                        && rules.products[rule] != rules.products[first];
                if (unlike && isFitting(rule, find)) {
                    return QUARREL;
                }
            }
            return rules.products[first];
        }

        private boolean isInTime(int find) {
            return isWithin(finds.days[find], dayNow - keptDays, dayNow);
        }

        private boolean isCounted(int find) {
            return isInTime(find) && goalOf(find) >= 0;
        }

        private boolean isOfSort(int find, int sort) {
            switch (sort) {
                case THAT_GO: return goalOf(find) >= 0;
                case THAT_QUARREL: return goalOf(find) == QUARREL;
                case THAT_ARE_UNREAD: return goalOf(find) == UNREAD;
                default: return isCounted(find);
            }
        }

        private void copyFrom(Books other) {
            products.copyFrom(other.products);
            rules.copyFrom(other.rules);
            hosts.copyFrom(other.hosts);
            finds.copyFrom(other.finds);
            uses.copyFrom(other.uses);
            rights.copyFrom(other.rights);
            dayNow = other.dayNow;
            keptDays = other.keptDays;
        }
    }

    /** The version with which each host has each product, 0 where it has it not. */
    private static final class Holdings {
        private final int[] versions = new int[MOST_HOSTS * MOST_PRODUCTS];

        private static int cellOf(int host, int product) {
            return host * MOST_PRODUCTS + product;
        }

        private int versionAt(int host, int product) {
            return versions[cellOf(host, product)];
        }

        private void raise(int host, int product, int version) {
            int cell = cellOf(host, product);
            versions[cell] = Math.max(versions[cell], version);
        }

        private void fill(Books books) {
            Arrays.fill(versions, 0);
            for (int find = 0; find < books.finds.count; find++) {
                int goal = books.isInTime(find) ? books.goalOf(find) : NONE;
                if (goal >= 0) {
                    raise(books.finds.hosts[find], goal, books.finds.versions[find]);
                }
            }
            for (int host = 0; host < books.hosts.count; host++) {
                makeSuites(books.products, host);
            }
        }

        private void makeSuites(Products products, int host) {
            for (int product = 0; product < products.count; product++) {
                if (products.isSuite(product)) {
                    makeSuite(products, host, product);
                }
            }
        }

        private void makeSuite(Products products, int host, int suite) {
            int had = hadParts(products, host, suite);
            if (Integer.bitCount(had) < products.leasts[suite]) {
                return;
            }
            boolean staying = products.kinds[suite] == PARTED;
            for (int part = 0; part < products.count; part++) {
                if ((had >> part & 1) == 1) {
                    raise(host, suite, versionAt(host, part));
                    if (!staying) {
                        versions[cellOf(host, part)] = 0;
                    }
                }
            }
        }

        private int hadParts(Products products, int host, int suite) {
            int had = 0;
            for (int part = 0; part < products.count; part++) {
                boolean named = part != suite && (products.parts[suite] >> part & 1) == 1;
                if (named && versionAt(host, part) > 0) {
                    had |= 1 << part;
                }
            }
            return had;
        }

        private void leaveOut(int host) {
            for (int product = 0; product < MOST_PRODUCTS; product++) {
                versions[cellOf(host, product)] = 0;
            }
        }

        private int howManyHosts(Hosts hosts, int product) {
            int sum = 0;
            for (int host = 0; host < hosts.count; host++) {
                if (versionAt(host, product) > 0) {
                    sum++;
                }
            }
            return sum;
        }

        private int howManyPersons(Hosts hosts, int product) {
            int seen = 0;
            for (int host = 0; host < hosts.count; host++) {
                if (versionAt(host, product) > 0) {
                    seen |= 1 << hosts.persons[host];
                }
            }
            return Integer.bitCount(seen);
        }

        private int coresByEight(Hosts hosts, int product) {
            int sum = 0;
            for (int host = 0; host < hosts.count; host++) {
                if (versionAt(host, product) > 0) {
                    sum += (hosts.cores[host] + CORES_AT_ONCE - 1) / CORES_AT_ONCE;
                }
            }
            return sum;
        }
    }

    /** Gives rights to needs so that least lacks and then least is paid. */
    private static final class Match {
        private final int[] left = new int[MOST_RIGHTS];
        private int lacking;
        private int paid;

        private void begin(Rights rights, int day) {
            lacking = 0;
            paid = 0;
            for (int right = 0; right < rights.count; right++) {
                boolean open = isWithin(day, rights.firstDays[right], rights.lastDays[right]);
                left[right] = open ? rights.amounts[right] : 0;
            }
        }

        private void leaveOut(int right) {
            left[right] = 0;
        }

        private void serveAll(Books books, Holdings holdings) {
            for (int product = 0; product < books.products.count; product++) {
                serveProduct(books, holdings, product);
            }
        }

        // What may serve a version may serve all lower ones too. So, from the greatest version
        // down, the cheapest right that is left is never a wrong choice: whichever later need
        // would have had it can take what this need would have had in its place.
        private void serveProduct(Books books, Holdings holdings, int product) {
            if (books.products.isFree(product)) {
                return;
            }
            for (int version = LAST_VERSION; version >= 1; version--) {
                for (int host = 0; host < books.hosts.count; host++) {
                    if (holdings.versionAt(host, product) == version) {
                        serve(books.rights, product, version);
                    }
                }
            }
        }

        private void serve(Rights rights, int product, int version) {
            int right = cheapest(rights, product, version);
            if (right < 0) {
                lacking++;
                return;
            }
            left[right]--;
            paid += rights.prices[right];
        }

        private int cheapest(Rights rights, int product, int version) {
            int best = NONE;
            for (int right = 0; right < rights.count; right++) {
                boolean open = left[right] > 0 && rights.products[right] == product
                        && rights.versions[right] >= version;
                if (open && (best < 0 || rights.prices[right] < rights.prices[best])) {
                    best = right;
                }
            }
            return best;
        }
    }
}
