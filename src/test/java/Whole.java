/** An object with something of everything, and all that an object keeps, read through its face. */
final class Whole {
    private Whole() { }

    /** Texts, tape, wheels, loads, hands, aisle, trolleys, sheets, an image: all of them otherwise than at first. */
    static PullsToTheLeft rich() {
        PullsToTheLeft x = new PullsToTheLeft();
        Due.read(x, "drags 1+load;holds hand*2;bumps 7;");
        beforeTheImage(x);
        x.image();
        behindTheImage(x);
        x.film(0, 30);
        x.sheet(1, 0, 5);
        for (int t = 0; t < 5; t++) x.cell(1, t, x.at(t, 1));
        x.sheet(2, 1, 40);
        for (int k = 0; k < 20; k++) {
            x.cell(2, 2 * k, k % 8);
            x.cell(2, 2 * k + 1, k + 5);
        }
        Due.feed(x, "drags 4;");
        return x;
    }

    private static void beforeTheImage(PullsToTheLeft x) {
        x.wheel(3, 5, 8);
        x.kick(3);
        x.set(0, 1, 11);
        x.set(1, 0, 7);
        x.set(2, 0, 6);
        x.set(3, 0, 8);
        x.set(4, 17, 55);
        x.come(70);
        x.come(20);
        x.come(45);
        x.rule(1, 0, 5);
        x.rule(2, 0, 40);
        x.rule(3, 0, 1);
        x.day(1);
        x.force(1);
    }

    private static void behindTheImage(PullsToTheLeft x) {
        x.force(0);
        x.wheel(0, 1, 3);
        x.wheel(1, 2, 4);
        x.wheel(2, 4, 2);
        x.wheel(3, 3, 5);
        x.kick(0);
        x.kick(3);
        x.kick(3);
        for (int p = 0; p < 8; p++) x.set(0, p, 3 * p + 1);
        x.set(1, 0, 4);
        x.set(2, 0, 5);
        x.set(3, 0, 5);
        x.set(4, 0, 60);
        x.set(4, 29, 9);
        x.come(40);
        x.come(10);
        x.rule(1, 0, 2);
        x.rule(2, 0, 33);
        x.rule(3, 0, 3);
        x.day(2);
    }

    /** Uses the object up: sheets, tape and image can't be read without changing something. */
    static String of(PullsToTheLeft x) {
        StringBuilder all = new StringBuilder();
        cart(x, all);
        sheets(x, all);
        row(x, all);
        texts(x, all);
        all.append("\nback ").append(x.back());
        cart(x, all);
        row(x, all);
        return all.toString();
    }

    private static void cart(PullsToTheLeft x, StringBuilder all) {
        all.append("\nlaw ").append(x.count(2)).append(" wheels");
        for (int w = 0; w < 4; w++) {
            for (int what = 0; what < 3; what++) all.append(' ').append(x.told(w, what));
        }
        all.append(" loads");
        for (int p = 0; p < 8; p++) all.append(' ').append(x.look(0, p));
        all.append(" hands, pace");
        for (int what = 1; what < 4; what++) all.append(' ').append(x.look(what, 0));
        all.append(" wide");
        for (int t = 0; t < 30; t++) all.append(' ').append(x.look(4, t));
    }

    private static void row(PullsToTheLeft x, StringBuilder all) {
        all.append("\ntrolleys ").append(x.count(0)).append(" stand");
        for (int place = 0; place < 8; place++) all.append(' ').append(x.stands(place));
        all.append(" bad");
        for (int t = 0; t < 8; t++) all.append(' ').append(x.rule(0, t, 0));
        all.append(" looks, bears, away");
        for (int what = 1; what < 4; what++) all.append(' ').append(x.rule(what, 0, 1));
    }

    private static void sheets(PullsToTheLeft x, StringBuilder all) {
        for (int s = 0; s < 4; s++) {
            int sort = sort(x, s);
            int size = size(x, s);
            all.append("\nsheet ").append(s).append(" of sort ").append(sort).append(", size ").append(size);
            all.append(", goes otherwise in ").append(x.judge(s));
            // A film tells all that such a sheet holds; a longer one holds pairs.
            if (size <= 30) continue;
            all.append(", pairs");
            for (int i = 0; i < size; i += 2) {
                x.loadsBy(s, sort, i, 1);
                all.append(' ').append(x.count(4));
            }
        }
    }

    /** -1, if it is missing. */
    static int sort(PullsToTheLeft x, int s) {
        for (int sort = 0; sort < 3; sort++) {
            if (x.loadsBy(s, sort, 0, 0) == 0) return sort;
        }
        return -1;
    }

    /** None of its numbers, copied to where they are, are inside up to its size. */
    static int size(PullsToTheLeft x, int s) {
        int least = 0;
        int most = 40;
        while (least < most) {
            int middle = (least + most + 1) / 2;
            if (x.copy(s, middle, s, middle, 0) == 0) least = middle;
            else most = middle - 1;
        }
        return least;
    }

    private static void texts(PullsToTheLeft x, StringBuilder all) {
        all.append("\ntape ").append(x.count(3));
        Due.feed(x, "holds 8;bumps 3;");
        all.append(" text ").append(x.text()).append(" of ").append(x.count(1)).append(" say");
        for (int t = 0; t < 6; t++) {
            all.append(' ').append(x.force(t));
            for (int part = 0; part < 3; part++) all.append(' ').append(x.asks(part, 1234, 5, 1));
        }
    }
}
