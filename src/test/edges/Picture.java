/** All that a desk's questions tell, as one text; asked of desks of a few rows, or of full ones. */
final class Picture {
    private final InstallDesk desk;
    private final StringBuilder text = new StringBuilder();

    private Picture(InstallDesk desk) {
        this.desk = desk;
    }

    /** The desk as it stands, then as it was kept: to be asked last, for it changes the desk. */
    static String of(InstallDesk desk) {
        Picture picture = new Picture(desk);
        boolean small = desk.told(0) < 10;
        picture.askAll(small);
        picture.tell("back", desk.back());
        if (small) {
            picture.askAll(true);
        }
        return picture.text.toString();
    }

    private void tell(String what, int answer) {
        text.append(what).append(' ').append(answer).append("; ");
    }

    private void askAll(boolean small) {
        askCounts();
        if (small) {
            askFinds();
            askProducts();
            askRights();
        }
        askLastRows();
        askByChanging();
    }

    private void askCounts() {
        for (int what : new int[] {0, 1, 2, 3, 4, 6}) {
            tell("told", desk.told(what));
        }
        for (int what = 0; what <= 3; what++) {
            tell("finds", desk.finds(what));
            tell("all", desk.all(what));
        }
        tell("needs", desk.needs());
        tell("lack", desk.lack());
        tell("cost", desk.cost());
        tell("when", desk.when(0));
        tell("when", desk.when(1));
    }

    private void askFinds() {
        int finds = desk.finds(0) + desk.finds(1) + desk.finds(2);
        for (int find = 0; find < finds; find++) {
            tell("goes", desk.goes(find));
            tell("by", desk.by(find));
            tell("counts", desk.counts(find));
            for (int rule = 0; rule < desk.told(1); rule++) {
                tell("fits", desk.fits(rule, find));
            }
        }
    }

    private void askProducts() {
        for (int product = 0; product < desk.told(0); product++) {
            for (int host = 0; host < desk.told(2); host++) {
                tell("has", desk.has(host, product));
            }
            tell("as suite", desk.as(product, 1));
            tell("as free", desk.as(product, 2));
            tell("as parted", desk.as(product, 3));
            tell("persons", desk.measure(product, 1));
            tell("cores", desk.measure(product, 2));
            tell("peak", desk.peak(product));
            tell("at 2", desk.at(product, 2));
            tell("at 5", desk.at(product, 5));
        }
    }

    private void askRights() {
        for (int right = 0; right < desk.told(4); right++) {
            for (int host = 0; host < desk.told(2); host++) {
                tell("may", desk.may(right, host));
            }
            tell("without", desk.without(right));
        }
    }

    /** The rows that one too many would be written over, in each table. */
    private void askLastRows() {
        int product = desk.told(0) - 1;
        int host = desk.told(2) - 1;
        tell("last product", desk.as(product, 0));
        tell("last host's", desk.has(host, product));
        tell("last peak", desk.peak(product));
        tell("last cost", desk.of(product, true));
        tell("last lack", desk.of(product, false));
        tell("last may", desk.may(desk.told(4) - 1, host));
        for (int find = desk.finds(0) + desk.finds(1) + desk.finds(2) - 1; find >= 0; find -= 3) {
            tell("goes", desk.goes(find));
        }
    }

    /** Some things are told only by a call that changes them. */
    private void askByChanging() {
        for (int host = 0; host < desk.told(2); host++) {
            tell("person", desk.moved(host, 0));
        }
        for (int right = 0; right < desk.told(4); right++) {
            tell("amount", desk.amount(right, 0));
        }
        tell("today", desk.today(0));
        tell("kept", desk.kept(0));
        tell("dropped", desk.drop(0));
        tell("waiting", desk.told(6));
        tell("of what waits", desk.find(0, 0, 1));
        tell("its rule", desk.by(desk.finds(0) + desk.finds(1) + desk.finds(2) - 1));
    }
}
