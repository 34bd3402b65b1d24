/** Promises 1 to 6: a new object, count, feed, text, force, asks. */
public final class LawTest {
    private static final Due due = new Due();

    public static void main(String[] args) {
        newObject();
        count();
        feed();
        goodTexts();
        faults();
        openOnes();
        fullOfTexts();
        force();
        asksSigns();
        asksNames();
        asksRefused();
        due.end();
    }

    private static void newObject() {
        PullsToTheLeft x = new PullsToTheLeft();
        for (int w = 0; w < 4; w++) {
            for (int what = 0; what < 5; what++) due.same("new: told", 0, x.told(w, what));
        }
        for (int p = 0; p < 8; p++) due.same("new: load", 0, x.look(0, p));
        for (int t = 0; t < 30; t++) due.same("new: wide", 20, x.look(4, t));
        due.same("new: left", 0, x.look(1, 0));
        due.same("new: right", 0, x.look(2, 0));
        due.same("new: pace", 3, x.look(3, 0));
        due.same("new: trolleys", 0, x.count(0));
        due.same("new: looks", 1, x.rule(1, 0, 8));
        due.same("new: bears", 30, x.rule(2, 0, 8));
        due.same("new: away", 2, x.rule(3, 0, 5));
        for (int s = 0; s < 4; s++) due.same("new: sheet", -11, x.judge(s));
        due.same("new: image", -3, x.back());
        due.same("new: text 0", 2 + 7 * 2, x.asks(0, 703, 0, 0));
        due.same("new: text 0", 3, x.asks(1, 703, 0, 0));
        due.same("new: text 0", 9, x.asks(2, 703, 0, 0));
    }

    private static void count() {
        PullsToTheLeft x = new PullsToTheLeft();
        x.come(5);
        x.come(5);
        Due.read(x, "drags 1;holds 1;bumps 1;");
        Due.read(x, "drags 1;holds 1;bumps 1;");
        x.force(1);
        x.feed(4, 32, 32, 32, 32, 32);
        x.set(0, 0, 5);
        x.set(0, 7, 6);
        x.set(0, 2, 40);
        due.same("count(0)", 2, x.count(0));
        due.same("count(1)", 3, x.count(1));
        due.same("count(2)", 1, x.count(2));
        due.same("count(3)", 4, x.count(3));
        due.same("count(4)", 51, x.count(4));
        due.same("count(5)", -2, x.count(5));
        due.same("count(-1)", -2, x.count(-1));
    }

    private static void feed() {
        PullsToTheLeft x = new PullsToTheLeft();
        due.same("feed none", -2, x.feed(0, 0, 0, 0, 0, 0));
        due.same("feed six", -2, x.feed(6, 0, 0, 0, 0, 0));
        due.same("feed a", -2, x.feed(1, 256, 0, 0, 0, 0));
        due.same("feed a", -2, x.feed(1, -1, 0, 0, 0, 0));
        due.same("feed b", -2, x.feed(1, 0, -1, 0, 0, 0));
        due.same("feed c", -2, x.feed(1, 0, 0, 256, 0, 0));
        due.same("feed d", -2, x.feed(1, 0, 0, 0, -1, 0));
        due.same("feed e", -2, x.feed(1, 0, 0, 0, 0, 256));
        due.same("nothing came", 0, x.count(3));
        due.same("feed 1", 1, x.feed(1, 0, 255, 255, 255, 255));
        due.same("feed 2", 3, x.feed(2, 0, 0, 0, 0, 0));
        for (int n = 8; n <= 158; n += 5) due.same("feed 5", n, x.feed(5, 1, 2, 3, 4, 5));
        due.same("no room for 3", -4, x.feed(3, 0, 0, 0, 0, 0));
        due.same("bad ahead of full", -2, x.feed(3, 0, 0, 0, 0, -1));
        due.same("none came", 158, x.count(3));
        due.same("room for 2", 160, x.feed(2, 0, 0, 0, 0, 0));
        due.same("no room for 1", -4, x.feed(1, 0, 0, 0, 0, 0));
        order();
    }

    /** The bytes come one by one, and only the first n. */
    private static void order() {
        PullsToTheLeft x = new PullsToTheLeft();
        x.feed(5, 'd', 'r', 'a', 'g', 's');
        x.feed(2, '1', ';', '?', '?', '?');
        x.feed(3, 'h', 'o', 'l', '?', '?');
        x.feed(4, 'd', 's', '2', ';', '?');
        x.feed(1, 'b', '?', '?', '?', '?');
        Due.feed(x, "umps3;");
        due.same("text", 1, x.text());
        x.force(1);
        due.same("drags", 1, x.asks(0, 0, 0, 0));
        due.same("holds", 2, x.asks(1, 0, 0, 0));
        due.same("bumps", 3, x.asks(2, 0, 0, 0));
    }

    private static int read(String text) {
        return Due.read(new PullsToTheLeft(), text);
    }

    private static void goodTexts() {
        due.same("no blanks", 1, read("drags2+load*2;holds hand;bumps9;"));
        due.same("many blanks", 1, read(" \n drags \n 2 ;\nholds 9999 ;bumps\n0009 ; \n"));
        due.same("all names", 1, read("drags load+hand+pace;holds tenth*more;bumps wheel;"));
        due.same("all signs", 1, read("drags not 1<2 or 3=4 and -(5-6);holds not not 1;bumps - - 1;"));
        PullsToTheLeft x = new PullsToTheLeft();
        due.same("a text", 1, Due.read(x, "drags 1;holds 1;bumps 1;"));
        due.same("the tape is empty", 0, x.count(3));
        due.same("the law is as it was", 0, x.count(2));
        due.same("a fault", -103, Due.read(x, "   ?"));
        due.same("the tape is empty by a fault, too", 0, x.count(3));
        due.same("no more texts", 2, x.count(1));
    }

    private static void faults() {
        due.same("empty", -100, read(""));
        due.same("blanks alone", -103, read(" \n "));
        due.same("ends ahead of the last ;", -127, read("drags 1 ; holds 1 ; bumps 1"));
        due.same("ends behind blanks", -129, read("drags 1 ; holds 1 ; bumps 1 \n"));
        due.same("goes on", -130, read("drags 1 ; holds 1 ; bumps 1 ; load"));
        due.same("goes on with ;", -130, read("drags 1 ; holds 1 ; bumps 1 ; ;"));
        due.same("goes on with a wrong byte", -130, read("drags 1 ; holds 1 ; bumps 1 ; ?"));
        due.same("no key at first", -100, read("load ;"));
        due.same("another key at first", -100, read("holds 1 ;"));
        due.same("parts out of their order", -110, read("drags 1 ; bumps 1 ; holds 1 ;"));
        due.same("a part twice", -110, read("drags 1 ; drags 1 ;"));
        due.same("no E", -106, read("drags ; holds 1 ; bumps 1 ;"));
        due.same("two at once", -108, read("drags 1 2 ;"));
        due.same("two at once, no blank", -107, read("drags 1load;"));
        due.same("two comparisons", -115, read("drags load < 2 < 3 ;"));
        due.same("two comparisons", -112, read("drags 1 = 2 = 3 ;"));
        due.same("nothing behind +", -110, read("drags 1 + ;"));
        due.same("nothing behind *", -110, read("drags 1 * * 2 ;"));
        due.same("+ ahead of a ONE", -106, read("drags + 1 ;"));
        due.same("or ahead", -106, read("drags or 1 ;"));
        due.same("and and", -112, read("drags 1 and and 1 ;"));
        due.same("not behind a ONE", -108, read("drags 1 not 1 ;"));
        due.same("not behind +", -110, read("drags 1 + not 1 ;"));
        due.same("not behind <", -110, read("drags 1 < not 1 ;"));
        due.same("not behind -", -108, read("drags - not 1 ;"));
        due.same(") without (", -108, read("drags 1 ) ;"));
        due.same("( without )", -109, read("drags (1 ; holds 1 ; bumps 1 ;"));
        due.same("( )", -108, read("drags ( ) ;"));
        due.same("a key where a name is due", -106, read("drags bumps ;"));
        due.same("a word that is none", -106, read("drags loads ;"));
        due.same("a word that is none", -106, read("drags loa ;"));
        due.same("a word that is none", -106, read("drags toad ;"));
        due.same("a word that is none", -100, read("crags 1 ;"));
        due.same("a word that is none", -106, read("drags wheex ;"));
        due.same("words grown together", -100, read("dragsload ;"));
        due.same("a number that is too long", -106, read("drags 00001 ;"));
        due.same("a number that is long enough", -110, read("drags 9999"));
        due.same("a great letter", -106, read("drags Load ;"));
        due.same("a tab", -105, read("drags\t1 ;"));
        due.same("byte 13", -107, read("drags 1\r;"));
        due.same("byte 255", -107, read("drags 1" + (char) 255));
        due.same("byte 0", -107, read("drags 1" + (char) 0));
        due.same("a sign that is none", -106, read("drags /1;"));
        due.same("a byte that begins none, behind a fault", -106, read("drags ; ?"));
        due.same("far behind", -259, read(" ".repeat(159) + "?"));
        due.same("far behind, ended", -260, read(" ".repeat(160)));
    }

    private static void openOnes() {
        due.same("five (", 1, read("drags (((((1)))));holds 1;bumps 1;"));
        due.same("six (", -111, read("drags ((((((1))))));holds 1;bumps 1;"));
        due.same("five -", 1, read("drags -----1-1;holds 1;bumps 1;"));
        due.same("six -", -111, read("drags ------1;holds 1;bumps 1;"));
        due.same("five not", 1, read("drags not not not not not 1;holds 1;bumps 1;"));
        due.same("six not", -126, read("drags not not not not not not 1;holds 1;bumps 1;"));
        due.same("six of all", -118, read("drags not (not (- - 1;"));
        due.same("five of all", -120, read("drags not (not (- 1 ;"));
        due.same("a - that joins opens nothing", 1, read("drags (((((1-1-1)))));holds 1;bumps 1;"));
        due.same("a - ahead of a ONE does", -113, read("drags (((((1--1)))));holds 1;bumps 1;"));
        for (String joins : new String[] {"or", "and", "+", "-", "*"}) {
            due.same("( one behind the other", 1, read("drags (1)" + (joins + "(1)").repeat(6) + ";holds 1;bumps 1;"));
        }
        due.same("- one behind the other", 1, read("drags -1+-1+-1+-1+-1+-1+-1;holds 1;bumps 1;"));
        due.same("- ends ahead of a *", 1, read("drags -----1*-1*(1);holds 1;bumps 1;"));
        due.same("- ends with a )", 1, read("drags -(-(1))+-(-(1))+-(-(1));holds 1;bumps 1;"));
        due.same("not one behind the other", 1,
                read("drags not 1 and not 1 and not 1 or not 1 or not 1 or not 1;holds 1;bumps 1;"));
        due.same("not till what it belongs to ends", -129, read("drags not not not not (1) = ((1"));
        due.same("not till its ) at most", 1, read("drags ((((not 1) + (not 1))));holds 1;bumps 1;"));
        due.same("not is open in a sum", -122, read("drags not not not 1+(-(-1));holds 1;bumps 1;"));
        due.same("each part for itself", 1, read("drags (((((1)))));holds (((((1)))));bumps -----1;"));
    }

    private static void fullOfTexts() {
        PullsToTheLeft x = new PullsToTheLeft();
        for (int t = 1; t < 6; t++) due.same("text", t, Due.read(x, "drags " + t + ";holds 1;bumps 1;"));
        due.same("six texts", 6, x.count(1));
        due.same("full", -4, Due.read(x, "drags 1;holds 1;bumps 1;"));
        due.same("the tape stays", 24, x.count(3));
        due.same("full ahead of the fault", -4, Due.read(x, "?"));
        due.same("the tape stays", 25, x.count(3));
        due.same("six texts", 6, x.count(1));
        for (int t = 5; t > 0; t--) {
            x.force(t);
            due.same("each text for itself", t, x.asks(0, 0, 0, 0));
        }
    }

    private static void force() {
        PullsToTheLeft x = new PullsToTheLeft();
        due.same("force(1)", -2, x.force(1));
        due.same("force(-1)", -2, x.force(-1));
        due.same("force(0)", 0, x.force(0));
        Due.read(x, "drags 50;holds 51;bumps 52;");
        due.same("force(1)", 0, x.force(1));
        due.same("the law", 1, x.count(2));
        due.same("says", 51, x.asks(1, 0, 0, 0));
        due.same("force(2)", -2, x.force(2));
        due.same("force(0)", 1, x.force(0));
        due.same("says", 0, x.asks(1, 0, 0, 0));
    }

    private static void said(String e, int want) {
        PullsToTheLeft x = new PullsToTheLeft();
        due.same(e, 1, Due.read(x, "drags " + e + ";holds 1;bumps 1;"));
        x.force(1);
        due.same(e, want, x.asks(0, 0, 0, 0));
    }

    private static void asksSigns() {
        said("2 + 3 * 4", 14);
        said("2 * 3 + 4", 10);
        said("(2 + 3) * 4", 20);
        said("10 - 3 - 2", 5);
        said("10 - (3 - 2)", 9);
        said("- 2 + 9", 7);
        said("3 - - 2", 5);
        said("- - 5", 5);
        said("-3 * -4", 12);
        said("2 < 3", 1);
        said("3 < 3", 0);
        said("-1 < 0", 1);
        said("3 = 3", 1);
        said("3 = 4", 0);
        said("1 + 1 = 2", 1);
        said("1 + (1 = 2)", 1);
        said("not 0", 1);
        said("not 5", 0);
        said("not -1", 0);
        said("not not 7", 1);
        said("not 5 < 3", 1);
        said("(not 5) < 3", 1);
        said("not 3 = 0", 1);
        said("(not 3) = 1", 0);
        said("0 or 7", 1);
        said("0 or 0", 0);
        said("3 and -4", 1);
        said("3 and 0", 0);
        said("1 or 0 and 0", 1);
        said("(1 or 0) and 0", 0);
        said("not 1 and 0", 0);
        said("not (1 and 0)", 1);
        said("not 0 or 1", 1);
        said("0 and 0 or 1", 1);
        said("0 and 1 or 1", 1);
        said("1 and 0 or 0 and 1", 0);
        said("1 and 1 or 0 and 0", 1);
        said("0 or 0 and 1 or 1", 1);
        said("2 < 1 + 2", 1);
        said("3 < 1 + 1 + 1", 0);
        said("6 = 2 * 3", 1);
        said("1 = 4 - 2 - 1", 1);
        said("1 + 1 < 3 and 2 * 2 = 1 + 3", 1);
        said("7 * (3 < 4) + 5 * (4 < 3)", 7);
        said("99", 99);
        said("100", 99);
        said("9999", 99);
        said("0 - 1", 0);
        said("9999 * 9999 * 9999 < 0", 1);
        said("9999 * 9999 * 9999 + 9999", 0);
        said("4096 * 4096 * 256 = 0", 1);
        said("4096 * 4096 * 256 + 5", 5);
        said("-(4096 * 4096 * 128) < 0", 1);
        said("4096 * 4096 * 128 - 1", 99);
        said("-(1 - 100)", 99);
    }

    private static void asksNames() {
        PullsToTheLeft x = new PullsToTheLeft();
        Due.read(x, "drags load;holds hand;bumps tenth;");
        Due.read(x, "drags more;holds wheel;bumps pace;");
        x.wheel(2, 3, 8);
        x.wheel(1, 0, 6);
        x.set(3, 0, 7);
        x.force(1);
        due.same("load", 12, x.asks(0, 1234, 5, 2));
        due.same("hand", 34, x.asks(1, 1234, 5, 2));
        due.same("tenth", 5, x.asks(2, 1234, 5, 2));
        due.same("load", 99, x.asks(0, 9999, 5, 2));
        due.same("hand", 99, x.asks(1, 9999, 5, 2));
        due.same("tenth", 29, x.asks(2, 0, 29, 2));
        x.force(2);
        due.same("more", 8, x.asks(0, 1234, 5, 2));
        due.same("more", 6, x.asks(0, 1234, 5, 1));
        due.same("wheel", 2, x.asks(1, 1234, 5, 2));
        due.same("wheel", 3, x.asks(1, 1234, 5, 3));
        due.same("pace", 7, x.asks(2, 1234, 5, 2));
        Due.read(x, "drags 0;holds more*10+load;bumps more*10+hand;");
        x.force(3);
        due.same("more of holds", 81, x.asks(1, 100, 5, 2));
        due.same("more of bumps", 62, x.asks(2, 102, 5, 1));
    }

    private static void asksRefused() {
        PullsToTheLeft x = new PullsToTheLeft();
        due.same("part", -2, x.asks(-1, 0, 0, 0));
        due.same("part", -2, x.asks(3, 0, 0, 0));
        due.same("loadHand", -2, x.asks(0, -1, 0, 0));
        due.same("loadHand", -2, x.asks(0, 10000, 0, 0));
        due.same("tenth", -2, x.asks(0, 0, -1, 0));
        due.same("tenth", -2, x.asks(0, 0, 30, 0));
        due.same("wheel", -2, x.asks(0, 0, 0, -1));
        due.same("wheel", -2, x.asks(0, 0, 0, 4));
        due.same("edges", 99, x.asks(0, 9999, 29, 3));
    }
}
