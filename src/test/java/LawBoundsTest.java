/** The bounds of promises 1 to 6, and of what the Terms say of texts. */
public final class LawBoundsTest {
    private static final int LEAST = Integer.MIN_VALUE, MOST = Integer.MAX_VALUE;
    private static final Due due = new Due();
    private static final Bounds bounds = new Bounds(due);

    public static void main(String[] args) {
        // 1
        nothingAtFirst();
        eachObjectForItself();
        // 2
        countsWhat();
        countsFromEmptyToFull();
        // 3
        feedsOneToFive();
        feedsBytesAlone();
        feedsUpToTheTapesEnd();
        // 4
        textOfNothing();
        textOfTheWholeTape();
        faultsOnTheWholeTape();
        sixTexts();
        // The Terms: tokens, faults, what stands open, E.
        everyByteBehindAnE();
        everyByteAheadOfAnE();
        wordsAsLongAsCanBe();
        keysAndNamesToTheLetter();
        keysAndNamesInTheirPlaces();
        nothingBehindTheText();
        numbersOfFourDigits();
        fiveOpenOfEachSort();
        openTillItEnds();
        openBehindAllThatJoins();
        asManyAsTheTapeHasRoomFor();
        wrapsIn32Bits();
        trueIs1AndFalse0();
        saysFrom0To99();
        // 5
        forcesTexts();
        // 6
        asksRanges();
        asksAtTheEdges();
        due.end();
    }

    private static void nothingAtFirst() {
        PullsToTheLeft x = new PullsToTheLeft();
        due.same("1: no trolleys", 0, x.count(0));
        due.same("1: one text", 1, x.count(1));
        due.same("1: that is the law", 0, x.count(2));
        due.same("1: an empty tape", 0, x.count(3));
        due.same("1: no loads", 0, x.count(4));
        due.same("1: nobody in front", -1, x.day(24));
        due.same("1: an empty tape ends too early", -100, x.text());
        due.same("1: no text 1", -2, x.force(1));
        due.same("1: no image", -3, x.back());
        for (int s = 0; s < 4; s++) due.same("1: a missing sheet", -11, x.cell(s, 0, 0));
        for (int p = 0; p < 8; p++) due.same("1: no load", -11, x.taken(p, 6));
        for (int w = 0; w < 4; w++) {
            due.same("1: a wheel", w, x.taken(8 + w, 0));
            for (int kind = 1; kind < 6; kind++) due.same("1: a plain one", -13, x.taken(8 + w, kind));
        }
        due.same("1: looks", 1, x.rule(1, 0, 1));
        due.same("1: bears", 30, x.rule(2, 0, 30));
        due.same("1: away", 2, x.rule(3, 0, 2));
        for (int t = 0; t < 30; t++) due.same("1: wide", 20, x.look(4, t));
        due.same("1: pace", 3, x.look(3, 0));
    }

    private static void eachObjectForItself() {
        String first = Whole.of(new PullsToTheLeft());
        PullsToTheLeft x = new PullsToTheLeft();
        PullsToTheLeft other = Whole.rich();
        due.same("1: made ahead of a changed one", first, Whole.of(x));
        due.same("1: made behind a changed one", first, Whole.of(new PullsToTheLeft()));
        due.same("1: the changed one by itself", Whole.of(Whole.rich()), Whole.of(other));
    }

    private static void countsWhat() {
        bounds.range("2: count", -2, 0, 4, (x, v) -> x.count(v));
        for (int what = 0; what < 5; what++) {
            int w = what;
            bounds.onlyAsks("2: count(" + w + ")", x -> x.count(w));
        }
    }

    private static void countsFromEmptyToFull() {
        PullsToTheLeft x = new PullsToTheLeft();
        for (int n = 1; n <= 9; n++) {
            x.come(n);
            due.same("2: trolleys, 8 at most", Math.min(8, n), x.count(0));
        }
        for (int n = 2; n <= 7; n++) {
            Due.read(x, "drags 1;holds 1;bumps 1;");
            due.same("2: texts, 6 at most", Math.min(6, n), x.count(1));
        }
        due.same("2: the refused one stays on the tape", 24, x.count(3));
        for (int t = 5; t >= 0; t--) {
            x.force(t);
            due.same("2: the law", t, x.count(2));
        }
        for (int p = 0; p < 8; p++) {
            x.set(0, p, 40);
            due.same("2: loads", 40 * p + 40, x.count(4));
        }
        x.feed(1, 0, 0, 0, 0, 0);
        for (int n = 30; n <= 165; n += 5) {
            x.feed(5, 0, 0, 0, 0, 0);
            due.same("2: bytes of the tape", Math.min(160, n), x.count(3));
        }
    }

    private static void feedsOneToFive() {
        bounds.range("3: feed n", -2, 1, 5, (x, v) -> x.feed(v, 0, 0, 0, 0, 0));
        for (int n = 1; n <= 5; n++) {
            PullsToTheLeft x = new PullsToTheLeft();
            due.same("3: so many come", n, x.feed(n, 0, 0, 0, 0, 0));
            due.same("3: so many more", 2 * n, x.feed(n, 0, 0, 0, 0, 0));
        }
    }

    private static void feedsBytesAlone() {
        bounds.range("3: feed a", -2, 0, 255, (x, v) -> x.feed(5, v, 0, 0, 0, 0));
        bounds.range("3: feed b", -2, 0, 255, (x, v) -> x.feed(5, 0, v, 0, 0, 0));
        bounds.range("3: feed c", -2, 0, 255, (x, v) -> x.feed(5, 0, 0, v, 0, 0));
        bounds.range("3: feed d", -2, 0, 255, (x, v) -> x.feed(5, 0, 0, 0, v, 0));
        bounds.range("3: feed e", -2, 0, 255, (x, v) -> x.feed(5, 0, 0, 0, 0, v));
        bounds.range("3: feed b, which doesn't come", -2, 0, 255, (x, v) -> x.feed(1, 0, v, 0, 0, 0));
        bounds.range("3: feed c, which doesn't come", -2, 0, 255, (x, v) -> x.feed(2, 0, 0, v, 0, 0));
        bounds.range("3: feed d, which doesn't come", -2, 0, 255, (x, v) -> x.feed(3, 0, 0, 0, v, 0));
        bounds.range("3: feed e, which doesn't come", -2, 0, 255, (x, v) -> x.feed(4, 0, 0, 0, 0, v));
    }

    private static PullsToTheLeft fed(int bytes) {
        PullsToTheLeft x = new PullsToTheLeft();
        Due.feed(x, " ".repeat(bytes));
        due.same("3: fed", bytes, x.count(3));
        return x;
    }

    private static void feedsUpToTheTapesEnd() {
        for (int n = 1; n <= 5; n++) {
            due.same("3: they have just room", 160, fed(160 - n).feed(n, 1, 2, 3, 4, 5));
            PullsToTheLeft x = fed(161 - n);
            due.same("3: they have not all room", -4, x.feed(n, 1, 2, 3, 4, 5));
            due.same("3: none comes", 161 - n, x.count(3));
            due.same("3: BAD ahead of FULL", -2, x.feed(n, 1, 2, 3, 4, 256));
            due.same("3: BAD ahead of FULL", -2, x.feed(n, -1, 2, 3, 4, 5));
        }
        PullsToTheLeft x = fed(160);
        due.same("3: BAD ahead of FULL", -2, x.feed(0, 1, 2, 3, 4, 5));
        due.same("3: BAD ahead of FULL", -2, x.feed(MOST, 1, 2, 3, 4, 5));
        due.same("3: BAD ahead of FULL", -2, x.feed(LEAST, 1, 2, 3, 4, 5));
        x.text();
        due.same("3: room again", 1, x.feed(1, 0, 0, 0, 0, 0));
        Bounds full = new Bounds(due, y -> Due.feed(y, " ".repeat(150)));
        full.keeps("3: FULL by 3", -4, y -> y.feed(3, 1, 2, 3, 4, 5));
        full.keeps("3: FULL by 5", -4, y -> y.feed(5, 1, 2, 3, 4, 5));
    }

    private static void textOfNothing() {
        PullsToTheLeft x = new PullsToTheLeft();
        due.same("4: an empty tape", -100, x.text());
        due.same("4: no text", 1, x.count(1));
        due.same("4: again", -100, x.text());
        x.feed(1, ' ', 0, 0, 0, 0);
        due.same("4: one blank", -101, x.text());
        due.same("4: the tape is empty by a fault, too", 0, x.count(3));
        due.same("4: no text", 1, x.count(1));
    }

    private static int said(String text) {
        PullsToTheLeft x = new PullsToTheLeft();
        due.same(text, 1, Due.read(x, text));
        due.same("the tape is empty then", 0, x.count(3));
        x.force(1);
        return x.asks(0, 0, 0, 0);
    }

    private static void textOfTheWholeTape() {
        String text = "drags 1" + "+1".repeat(68) + ";holds 1;bumps 1;";
        due.same("4: its size", 160, text.length());
        due.same("4: 160 bytes", 69, said(text));
        due.same("4: blanks at the end", 7, said("drags 7;holds 1;bumps 1;" + " ".repeat(136)));
        due.same("4: blanks ahead", 7, said("\n".repeat(136) + "drags 7;holds 1;bumps 1;"));
        due.same("4: many signs", 1, said("drags" + " not not - - 1=1 and".repeat(6) + " 1;holds 1;bumps 1;"));
    }

    private static int read(String text) {
        return Due.read(new PullsToTheLeft(), text);
    }

    private static void faultsOnTheWholeTape() {
        due.same("4: the last byte", -259, read("drags 7;holds 1;bumps 1;" + " ".repeat(135) + ";"));
        due.same("4: the last byte is a wrong one", -259, read("drags 7;holds 1;bumps 1;" + " ".repeat(135) + "?"));
        due.same("4: ends too early", -260, read("drags 7;holds 1;bumps 1" + " ".repeat(137)));
        due.same("4: ends too early", -260, read("drags " + "1+".repeat(77)));
        due.same("4: a word of 160 letters", -100, read("a".repeat(160)));
        due.same("4: a number of 155 digits", -105, read("drags" + "1".repeat(155)));
        due.same("4: only the last ; is missing", -259, read("drags 1" + "+1".repeat(68) + ";holds 1;bumps 1"));
    }

    private static void sixTexts() {
        PullsToTheLeft x = new PullsToTheLeft();
        for (int t = 1; t <= 5; t++) due.same("4: text " + t, t, Due.read(x, "drags 1;holds 1;bumps 1;"));
        due.same("4: FULL ahead of the fault of an empty tape", -4, x.text());
        Due.feed(x, "?".repeat(160));
        due.same("4: FULL ahead of the fault", -4, x.text());
        due.same("4: then the tape stays", 160, x.count(3));
        due.same("4: and is full", -4, x.feed(1, 0, 0, 0, 0, 0));
        due.same("4: FULL again", -4, x.text());
        due.same("4: six", 6, x.count(1));
        Bounds full = new Bounds(due, y -> {
            for (int t = 2; t <= 5; t++) Due.read(y, t == 2 ? "holds 1;bumps 1;" : "drags 1;holds 1;bumps 1;");
            Due.feed(y, "drags 9;");
        });
        full.keeps("4: FULL", -4, y -> y.text());
    }

    /** What stands behind "drags 1": a place further, if more may follow there. */
    private static void everyByteBehindAnE() {
        String goesOn = " \n0123456789;+-*<=";
        for (int b = 0; b < 256; b++) {
            int want = goesOn.indexOf(b) >= 0 ? -108 : -107;
            due.same("4: byte " + b + " behind an E", want, read("drags 1" + (char) b));
        }
    }

    private static void everyByteAheadOfAnE() {
        String goesOn = " \n0123456789(-";
        for (int b = 0; b < 256; b++) {
            boolean letter = b >= 'a' && b <= 'z';
            int want = letter ? -100 : goesOn.indexOf(b) >= 0 ? -106 : -105;
            due.same("4: byte " + b + " ahead of an E", want, read("drags" + (char) b));
        }
    }

    private static void wordsAsLongAsCanBe() {
        due.same("4: a word ends at a digit", 1, read("drags1;holds1;bumps1;"));
        due.same("4: a number ends at a letter", 1, said("drags 1or0;holds 1;bumps 1;"));
        due.same("4: not ends at a digit", 1, said("drags not0;holds 1;bumps 1;"));
        due.same("4: not ends at a (", 0, said("drags not(1);holds 1;bumps 1;"));
        due.same("4: two words in one", -100, read("dragsload;"));
        due.same("4: not and a name in one", -106, read("drags notload;"));
        due.same("4: or and a name in one", -107, read("drags 1orload;"));
        due.same("4: and or in one", -108, read("drags 1 andor 1;"));
        due.same("4: a name, then a number", -110, read("drags load1;"));
        due.same("4: two numbers", -108, read("drags 1 1;"));
    }

    private static void wordFaults(String ahead, String word, String behind) {
        due.same("4: " + word, -100 - (ahead + word + behind).length(), read(ahead + word + behind));
        String shorter = word.substring(0, word.length() - 1);
        int fault = -100 - ahead.length();
        due.same("4: " + shorter, fault, read(ahead + shorter + behind));
        due.same("4: " + word + "x", fault, read(ahead + word + "x" + behind));
        due.same("4: x" + word, fault, read(ahead + "x" + word + behind));
        due.same("4: a great first letter", fault, read(ahead + (char) (word.charAt(0) - 32) + word.substring(1) + behind));
        due.same("4: a great last letter", fault, read(ahead + shorter + (char) (word.charAt(word.length() - 1) - 32) + behind));
    }

    private static void keysAndNamesToTheLetter() {
        wordFaults("", "drags", " 1");
        wordFaults("drags 1;", "holds", " 1");
        wordFaults("drags 1;holds 1;", "bumps", " 1");
        for (String name : new String[] {"load", "hand", "pace", "tenth", "more", "wheel"}) wordFaults("drags ", name, " ");
        wordFaults("drags 1 ", "or", " 1");
        wordFaults("drags 1 ", "and", " 1");
        wordFaults("drags ", "not", " 1");
    }

    private static void keysAndNamesInTheirPlaces() {
        String[] keys = {"drags", "holds", "bumps", "or", "and"};
        String[] names = {"load", "hand", "pace", "tenth", "more", "wheel"};
        for (String key : keys) {
            due.same("4: " + key + " where a ONE is due", -106, read("drags " + key + ";holds 1;bumps 1;"));
            due.same("4: " + key + " where a ONE is due", -108, read("drags 1*" + key + ";holds 1;bumps 1;"));
        }
        for (String name : names) {
            due.same("4: " + name + " where a KEY is due", -100, read(name + " 1;holds 1;bumps 1;"));
            due.same("4: " + name + " where a KEY is due", -116, read("drags 1;holds 1;" + name + " 1;"));
            due.same("4: " + name + " as a ONE", 1, read("drags " + name + ";holds " + name + ";bumps " + name + ";"));
        }
        // A word that is none stands for nothing that stood ahead of it.
        due.same("4: no word, behind -", -107, read("drags -foo 1;holds 1;bumps 1;"));
        due.same("4: no word, behind (", -107, read("drags (foo 1));holds 1;bumps 1;"));
        due.same("4: no word, behind not", -110, read("drags not foo 1;holds 1;bumps 1;"));
        due.same("4: no word, behind a KEY", -108, read("drags 1;drag 1;bumps 1;"));
    }

    private static void nothingBehindTheText() {
        String text = "drags 1;holds 1;bumps 1;";
        String[] more = {
            "0", "9999", "load", "wheel", "drags", "bumps", "or", "not",
            "(", ")", ";", "+", "-", "*", "<", "=", "?", "foo", "00000"
        };
        for (String behind : more) {
            due.same("4: " + behind + " behind the text", -124, read(text + behind));
            due.same("4: " + behind + " behind the text and blanks", -126, read(text + " \n" + behind));
        }
        due.same("4: blanks behind the text", 1, read(text + " \n"));
    }

    private static void numbersOfFourDigits() {
        due.same("4: 0", 0, said("drags 0;holds 1;bumps 1;"));
        due.same("4: 0000", 0, said("drags 0000;holds 1;bumps 1;"));
        due.same("4: 0099", 99, said("drags 0099;holds 1;bumps 1;"));
        due.same("4: 9999", 9, said("drags 9999-9990;holds 1;bumps 1;"));
        due.same("4: 00000 is too long", -106, read("drags 00000;holds 1;bumps 1;"));
        due.same("4: 10000 is too long", -106, read("drags 10000;holds 1;bumps 1;"));
        due.same("4: the second one is too long", -108, read("drags 1+00001;holds 1;bumps 1;"));
        due.same("4: at the end of the tape", -106, read("drags 12345"));
        due.same("4: at the end of the tape", -110, read("drags 1234"));
    }

    private static void fiveOpenOfEachSort() {
        String[] sorts = {"(", "not ", "-"};
        for (String first : sorts) {
            for (String last : sorts) {
                // A not behind a - can't stand there anyway.
                if (first.equals("-") && last.equals("not ")) continue;
                String five = "drags " + first.repeat(4) + last;
                due.same("4: " + five + "1", -101 - five.length(), read(five + "1"));
                String six = "drags " + first.repeat(5) + last;
                due.same("4: " + six + "1", -100 - six.length() + last.length(), read(six + "1"));
            }
        }
        due.same("4: five open, then a name", -115, read("drags -----load"));
        due.same("4: five open, then a fault", -111, read("drags -----;"));
    }

    private static void openTillItEnds() {
        due.same("4: a ( till its )", 2, said("drags (((((1)))))+(((((1)))));holds 1;bumps 1;"));
        due.same("4: a ( with others in it", 4, said("drags ((((1)+(1))+((1)+(1))));holds 1;bumps 1;"));
        due.same("4: a - till its ONE ends", 1, said("drags -----1+-----1=-2;holds 1;bumps 1;"));
        due.same("4: a - till a ) ends its ONE", 1, said("drags -(-(-1))+-(-(-1))=-2;holds 1;bumps 1;"));
        due.same("4: a not till its NOT ends", 1,
                said("drags not not not not not 0 or not not not not not 0;holds 1;bumps 1;"));
        due.same("4: a not is open behind its <", -127, read("drags not not not not 0 < ((1))"));
        due.same("4: a not is open behind its +", -125, read("drags not not not not 0+-(1)"));
        due.same("4: behind an and it is not", 1, said("drags not not not not 1 and (((((1)))));holds 1;bumps 1;"));
        due.same("4: each part anew", 1, read("drags (((((1)))));holds -----1;bumps not not not not not 1;"));
    }

    /** What stands open inside stays so behind whatever joins. */
    private static void openBehindAllThatJoins() {
        String rest = ";holds 1;bumps 1;";
        for (String joins : new String[] {" or ", " and ", "+", "-", "*", "<", "="}) {
            String five = "drags (((((1" + joins;
            due.same("4: a sixth ( behind" + joins, -100 - five.length(), read(five + "(1"));
            due.same("4: a sixth - behind" + joins, -100 - five.length(), read(five + "-1"));
            String four = "drags ((((1" + joins;
            due.same("4: a fifth ( behind" + joins, 1, read(four + "(1)))))" + rest));
            due.same("4: a fifth - behind" + joins, 1, read(four + "-1))))" + rest));
        }
        for (String joins : new String[] {" or ", " and "}) {
            String five = "drags (((((1" + joins;
            due.same("4: a sixth not behind" + joins, -100 - five.length(), read(five + "not 1"));
            due.same("4: a fifth not behind" + joins, 1, read("drags ((((1" + joins + "not 1))))" + rest));
        }
    }

    private static void asManyAsTheTapeHasRoomFor() {
        String rest = ";holds 1;bumps 1;";
        due.same("4: 45 or", 0, said("drags " + "0or".repeat(45) + "0" + rest));
        due.same("4: 45 or, the last is true", 1, said("drags " + "0or".repeat(45) + "1" + rest));
        due.same("4: 34 and", 1, said("drags " + "1and".repeat(34) + "1" + rest));
        due.same("4: 34 and, the last is not true", 0, said("drags " + "1and".repeat(34) + "0" + rest));
        due.same("4: 68 *", 7, said("drags " + "1*".repeat(68) + "7" + rest));
        due.same("4: 67 -", 32, said("drags 99" + "-1".repeat(67) + rest));
    }

    private static void wrapsIn32Bits() {
        String least = "(4096*4096*128)";
        String most = "(4096*4096*128-1)";
        String[] true32 = {
            least + "<0", "0<" + most, least + "<" + most, most + "+1=" + least, least + "-1=" + most,
            "-" + least + "=" + least, least + "*2=0", most + "*2=-2", least + "*-1=" + least,
            most + "*" + most + "=1", "4096*4096*256=0", "4096*4096*255<0", least + "+" + least + "=0",
            "9999*9999*9999=-(9999*(9999*10+2755)+2714)"
        };
        for (String e : true32) due.same("E: " + e, 1, said("drags " + e + ";holds 1;bumps 1;"));
        String[] false32 = {most + "<" + least, least + "=" + most, "not " + least, "not " + most, most + "<0"};
        for (String e : false32) due.same("E: " + e, 0, said("drags " + e + ";holds 1;bumps 1;"));
        String[] alsoTrue = {least + " and " + most, "0 or " + least, most + " or 0"};
        for (String e : alsoTrue) due.same("E: " + e, 1, said("drags " + e + ";holds 1;bumps 1;"));
    }

    private static void trueIs1AndFalse0() {
        String[] trueOnes = {"-1 and 1", "1 and -1", "-1 and -1", "-1 or 0", "0 or -1", "1 or 1", "not 0", "-1<0", "-1=-1"};
        String[] falseOnes = {"0 and 1", "1 and 0", "-1 and 0", "0 and 0", "0 or 0", "not 1", "not -1", "0<0", "0<-1", "0=-1"};
        for (String e : trueOnes) due.same("E: " + e, 6, said("drags 5+(" + e + ");holds 1;bumps 1;"));
        for (String e : falseOnes) due.same("E: " + e, 5, said("drags 5+(" + e + ");holds 1;bumps 1;"));
    }

    private static void saysFrom0To99() {
        String[] es = {"-1", "0", "1", "98", "99", "100", "-9999", "9999", "4096*4096*128", "4096*4096*128-1"};
        int[] want = {0, 0, 1, 98, 99, 99, 0, 99, 0, 99};
        for (int i = 0; i < es.length; i++) {
            PullsToTheLeft x = new PullsToTheLeft();
            Due.read(x, "drags " + es[i] + ";holds " + es[i] + ";bumps " + es[i] + ";");
            x.force(1);
            for (int part = 0; part < 3; part++) due.same("says " + es[i], want[i], x.asks(part, 0, 0, 0));
        }
    }

    private static void forcesTexts() {
        bounds.range("5: force", -2, 0, 1, (x, v) -> x.force(v));
        Bounds full = new Bounds(due, y -> {
            y.text();
            for (int t = 2; t <= 5; t++) Due.read(y, "drags 1;holds 1;bumps 1;");
        });
        full.range("5: force", -2, 0, 5, (x, v) -> x.force(v));
        PullsToTheLeft x = new PullsToTheLeft();
        due.same("5: of one text", -2, x.force(1));
        for (int t = 1; t <= 5; t++) {
            due.same("5: not yet there", -2, x.force(t));
            Due.read(x, "drags 1;holds 1;bumps 1;");
            due.same("5: which was", t - 1, x.force(t));
            due.same("5: none beyond", -2, x.force(t + 1));
        }
        due.same("5: which was", 5, x.force(5));
        due.same("5: which was", 5, x.force(0));
    }

    private static void asksRanges() {
        bounds.range("6: asks part", -2, 0, 2, (x, v) -> x.asks(v, 0, 0, 0));
        bounds.range("6: asks loadHand", -2, 0, 9999, (x, v) -> x.asks(0, v, 0, 0));
        bounds.range("6: asks tenth", -2, 0, 29, (x, v) -> x.asks(0, 0, v, 0));
        bounds.range("6: asks wheel", -2, 0, 3, (x, v) -> x.asks(0, 0, 0, v));
        for (int part = 0; part < 3; part++) {
            int p = part;
            bounds.onlyAsks("6: asks(" + p + ")", x -> x.asks(p, 1234, 5, 1));
        }
    }

    private static void asksAtTheEdges() {
        PullsToTheLeft x = new PullsToTheLeft();
        Due.read(x, "drags load;holds hand;bumps tenth;");
        Due.read(x, "drags more;holds wheel;bumps pace;");
        x.force(1);
        int[] loadHands = {0, 1, 99, 100, 9900, 9999};
        int[] loads = {0, 0, 0, 1, 99, 99};
        int[] hands = {0, 1, 99, 0, 0, 99};
        for (int i = 0; i < loadHands.length; i++) {
            due.same("6: load of " + loadHands[i], loads[i], x.asks(0, loadHands[i], 0, 0));
            due.same("6: hand of " + loadHands[i], hands[i], x.asks(1, loadHands[i], 0, 0));
        }
        due.same("6: the first tenth", 0, x.asks(2, 0, 0, 0));
        due.same("6: the last tenth", 29, x.asks(2, 0, 29, 0));
        x.force(2);
        for (int w = 0; w < 4; w++) {
            x.wheel(w, 0, w == 0 ? 0 : w == 3 ? 9 : 5);
            due.same("6: more of wheel " + w, w == 0 ? 0 : w == 3 ? 9 : 5, x.asks(0, 0, 0, w));
            due.same("6: wheel " + w, w, x.asks(1, 0, 0, w));
        }
        for (int pace = 1; pace <= 9; pace++) {
            x.set(3, 0, pace);
            due.same("6: pace as it is", pace, x.asks(2, 0, 0, 0));
        }
    }
}
