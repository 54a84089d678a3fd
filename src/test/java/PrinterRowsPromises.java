/** One method a promise: ordinary inputs, the edges that the document names, wrong inputs. */
public final class PrinterRowsPromises extends Dues {
    public static void main(String[] args) {
        newObject();
        channel();
        sign();
        lineOfTheFirstKind();
        lineOfTheSecondKind();
        lineToChannels();
        lineOfOtherCodes();
        lineBeginsPages();
        lineBeyondTheLastPage();
        skip();
        skipBeyondTheLastPage();
        end();
        at();
        over();
        translate();
        copies();
        back();
        forms();
        tally();
        exampleOfTheReadme();
        endWith("every promise holds");
    }

    private static void newObject() {
        about("promise 1, a new object");
        PrinterRows x = new PrinterRows(4, 5);
        for (int what = 0; what <= 7; what++) {
            due("tally(" + what + ")", x.tally(what), 0);
        }
        dueNoPlace(x, 0, 0, 0);
        for (int c = 1; c <= 12; c++) {
            due("channel(" + c + ", NONE)", x.channel(c, PrinterRows.NONE), PrinterRows.NONE);
        }
        for (int c = 32; c <= 255; c++) {
            due("translate(" + c + ", same)", x.translate(c, c), c);
        }
        due("NONE", PrinterRows.NONE, -1);
        dueSize(new PrinterRows(4, 5), 4, 5);
        dueSize(new PrinterRows(1, 1), 1, 1);
        dueSize(new PrinterRows(66, 132), 66, 132);
        dueSize(new PrinterRows(0, 0), 1, 1);
        dueSize(new PrinterRows(67, 133), 66, 132);
        dueSize(new PrinterRows(Integer.MIN_VALUE, Integer.MAX_VALUE), 1, 132);
        dueSize(new PrinterRows(Integer.MAX_VALUE, Integer.MIN_VALUE), 66, 1);
    }

    private static void dueSize(PrinterRows x, int lines, int columns) {
        x.line('+');
        dueAt(x, 0, lines - 1, columns - 1, ' ');
        dueNoPlace(x, 0, lines, 0);
        dueNoPlace(x, 0, 0, columns);
    }

    private static void channel() {
        about("promise 2, channel");
        PrinterRows x = new PrinterRows(6, 3);
        due("first time", x.channel(1, 0), PrinterRows.NONE);
        due("another line", x.channel(1, 5), 0);
        due("to none", x.channel(1, PrinterRows.NONE), 5);
        due("from none", x.channel(1, 2), PrinterRows.NONE);
        due("the last channel", x.channel(12, 4), PrinterRows.NONE);
        due("channel 0", x.channel(0, 0), -2);
        due("channel 13", x.channel(13, 0), -2);
        due("channel -1", x.channel(-1, 0), -2);
        due("the least channel", x.channel(Integer.MIN_VALUE, 0), -2);
        due("the greatest channel", x.channel(Integer.MAX_VALUE, 0), -2);
        due("line 6 of 6", x.channel(1, 6), -2);
        due("line -2", x.channel(1, -2), -2);
        due("the least line", x.channel(1, Integer.MIN_VALUE), -2);
        due("the greatest line", x.channel(1, Integer.MAX_VALUE), -2);
        due("a wrong call changed nothing", x.channel(1, 2), 2);
        due("the other channel is its own", x.channel(12, 4), 4);
    }

    private static void sign() {
        about("promise 3, sign");
        PrinterRows x = new PrinterRows(2, 132);
        int[] given = {97, 31, 0, 32, 255, 256, 256 + 97, -1, -191, -256, 33, Integer.MAX_VALUE, Integer.MIN_VALUE};
        int[] printed = {97, 32, 32, 32, 255, 32, 97, 255, 65, 32, 33, 255, 32};
        for (int c : given) {
            x.sign(c);
        }
        due("signs of the record", x.tally(7), given.length);
        x.line('+');
        for (int i = 0; i < printed.length; i++) {
            dueAt(x, 0, 0, i, printed[i]);
        }
        signs(x, 'q', 200);
        due("200 signs", x.tally(7), 200);
        x.sign('r');
        x.sign('s');
        due("the 201st is lost", x.tally(7), 200);
        x.line(' ');
        due("200 less 132 are cut", x.tally(4), 200 - 132);
        dueAt(x, 0, 1, 131, 'q');
    }

    private static void lineOfTheFirstKind() {
        about("promise 4, line, first kind");
        PrinterRows x = new PrinterRows(8, 4);
        print(x, "abcdef", '+', 1);
        dueText(x, 0, 0, "abcd");
        due("the record is empty then", x.tally(7), 0);
        due("+ does not move", x.tally(1), 0);
        print(x, "Zb z", '+', 1);
        dueText(x, 0, 0, "abcz");
        print(x, "1", ' ', 1);
        due("a blank moves by a line", x.tally(1), 1);
        print(x, "2", '0', 1);
        due("0 moves by two", x.tally(1), 3);
        print(x, "3", '-', 1);
        due("- moves by three", x.tally(1), 6);
        dueText(x, 0, 1, "1   ");
        dueText(x, 0, 2, "    ");
        dueText(x, 0, 3, "2   ");
        dueText(x, 0, 6, "3   ");
        print(x, "4", '-', 2);
        due("over the last line", x.tally(1), 1);
        dueText(x, 1, 0, "    ");
        dueText(x, 1, 1, "4   ");
        PrinterRows y = new PrinterRows(8, 4);
        print(y, "5", ' ', 1);
        dueText(y, 0, 0, "    ");
        dueText(y, 0, 1, "5   ");
    }

    private static void lineOfTheSecondKind() {
        about("promise 4, line, second kind");
        PrinterRows x = new PrinterRows(8, 4);
        print(x, "a", 256, 1);
        due("256 does not move", x.tally(1), 0);
        print(x, "b", 257, 1);
        due("257 moves by a line", x.tally(1), 1);
        dueText(x, 0, 0, "b   ");
        print(x, "c", 258, 1);
        due("258 moves by two", x.tally(1), 3);
        dueText(x, 0, 1, "c   ");
        print(x, "d", 259, 1);
        due("259 moves by three", x.tally(1), 6);
        dueText(x, 0, 3, "d   ");
        print(x, "e", 258, 1);
        due("to a new page", x.tally(1), 0);
        dueNoPlace(x, 1, 0, 0);
        print(x, "f", 257, 2);
        dueText(x, 1, 0, "f   ");
    }

    private static void lineToChannels() {
        about("promise 4, line, channels");
        int[] first = {'1', '2', '3', '4', '5', '6', '7', '8', '9', 'A', 'B', 'C'};
        for (int c = 1; c <= 12; c++) {
            PrinterRows x = withChannels();
            print(x, "x", first[c - 1], 1);
            due("the first kind, channel " + c, x.tally(1), c + 1);
            dueAt(x, 0, c + 1, 0, 'x');
            PrinterRows y = withChannels();
            print(y, "y", 272 + c, 1);
            due("the second kind, channel " + c, y.tally(1), c + 1);
            dueAt(y, 0, 0, 0, 'y');
            dueAt(y, 0, c + 1, 0, ' ');
        }
        PrinterRows x = withChannels();
        print(x, "x", '4', 1);
        print(x, "y", '4', 2);
        due("at least by a line", x.tally(1), 5);
        print(x, "z", '2', 3);
        due("to a line before", x.tally(1), 3);
        due("no skip to a channel at none yet", x.tally(5), 0);
        x.channel(2, PrinterRows.NONE);
        print(x, "n", '2', 4);
        due("the same line of the next page", x.tally(1), 3);
        dueAt(x, 3, 3, 0, 'n');
        print(x, "m", 274, 4);
        due("the second kind, too", x.tally(1), 3);
        dueAt(x, 3, 3, 0, 'n');
        dueNoPlace(x, 4, 3, 0);
        due("both are counted", x.tally(5), 2);
    }

    private static PrinterRows withChannels() {
        PrinterRows x = new PrinterRows(20, 2);
        for (int c = 1; c <= 12; c++) {
            x.channel(c, c + 1);
        }
        return x;
    }

    private static void lineOfOtherCodes() {
        about("promise 4, line, other codes are as 32");
        int[] others = {0, 1, 12, 31, 33, 42, 44, 46, 47, 58, 64, 68, 97, 255, 260, 271, 272, 285, 300, -1,
            Integer.MIN_VALUE, Integer.MAX_VALUE, 256 + 32, 256 + 43, 256 + 49};
        for (int code : others) {
            PrinterRows x = withChannels();
            print(x, "x", code, 1);
            due("code " + code + " moves", x.tally(1), 1);
            dueAt(x, 0, 1, 0, 'x');
            due("code " + code + " skips", x.tally(5), 0);
        }
    }

    private static void lineBeginsPages() {
        about("promise 4, line, pages that are begun");
        PrinterRows x = new PrinterRows(1, 1);
        due("a blank page, and one", x.line(' '), 2);
        due("two blank pages, and one", x.line('-'), 5);
        due("two blank pages behind", x.line(259), 7);
        due("here", x.line(256), 8);
        due("a record with no sign begins a page", new PrinterRows(3, 3).line('+'), 1);
        due("none for the move behind it", new PrinterRows(1, 1).line(257), 1);
        PrinterRows y = new PrinterRows(3, 2);
        print(y, "ab", 257, 1);
        y.back(1);
        print(y, "  ", '+', 1);
        dueText(y, 0, 0, "  ");
        print(y, "z", ' ', 1);
        dueText(y, 0, 1, "z ");
        dueText(y, 0, 0, "  ");
    }

    private static void lineBeyondTheLastPage() {
        about("promise 4, line, beyond the 40th page");
        int[] codes = {' ', '0', '-', '1', '2', 'C', 99};
        for (int code : codes) {
            PrinterRows x = onTheLastPage();
            dueRefused(x, code);
            dueAt(x, 39, 0, 0, 'k');
            due("the record is still here", x.line('+'), MOST_PAGES);
            dueAt(x, 39, 0, 0, 'z');
        }
        PrinterRows x = onTheLastPage();
        print(x, "p", 257, MOST_PAGES);
        dueAt(x, 39, 0, 0, 'p');
        int[] allCodes = {' ', '0', '-', '+', '1', 'C', 256, 257, 258, 259, 273, 284, 7};
        for (int code : allCodes) {
            dueRefused(x, code);
        }
        PrinterRows y = onTheLastPage();
        dueRefused(y, 258);
        dueRefused(y, 259);
        dueAt(y, 39, 0, 0, 'k');
        print(y, "q", 273, MOST_PAGES);
        dueAt(y, 39, 0, 0, 'z');
        due("that skip is counted", y.tally(5), 1);
        PrinterRows z = new PrinterRows(3, 1);
        z.line('+');
        z.copies(9, 0, 0);
        z.copies(3, 0, 8);
        z.copies(2, 0, 0);
        z.line('+');
        due("40 pages", z.tally(0), MOST_PAGES);
        due("to its last line", z.line('0'), MOST_PAGES);
        dueRefused(z, ' ');
        due("its last line", z.tally(1), 2);
    }

    private static void dueRefused(PrinterRows x, int code) {
        x.sign('z');
        int[] before = tallies(x);
        due("line(" + code + ") beyond", x.line(code), -6);
        dueTallies("line(" + code + ") beyond changes nothing", x, before);
    }

    private static void skip() {
        about("promise 5, skip");
        PrinterRows x = new PrinterRows(6, 3);
        x.channel(1, 0);
        x.channel(2, 4);
        x.channel(12, 5);
        due("down", x.skip(2), 4);
        due("nothing is begun by that", x.tally(0), 0);
        due("at least by a line", x.skip(2), 6);
        due("a blank page is begun", x.tally(0), 1);
        due("the last channel", x.skip(12), 1);
        due("up: the next page", x.skip(2), 5);
        due("to line 0", x.skip(1), 2);
        due("line", x.tally(1), 0);
        due("pages", x.tally(0), 3);
        x.skip(2);
        due("at no line", x.skip(3), PrinterRows.NONE);
        due("the same line", x.tally(1), 4);
        due("of the next page", x.tally(0), 4);
        due("counted", x.tally(5), 1);
        int[] others = {0, 13, -1, Integer.MIN_VALUE, Integer.MAX_VALUE};
        for (int c : others) {
            int[] before = tallies(x);
            due("skip(" + c + ")", x.skip(c), 0);
            dueTallies("skip(" + c + ") changes nothing", x, before);
        }
        x.sign('v');
        due("it prints where it stands", x.line('+'), 5);
        dueAt(x, 4, 4, 0, 'v');
        dueAt(x, 3, 4, 0, ' ');
        due("the record is left alone", x.tally(2), 1);
    }

    private static void skipBeyondTheLastPage() {
        about("promise 5, skip, beyond the 40th page");
        PrinterRows x = new PrinterRows(1, 1);
        for (int i = 0; i < MOST_PAGES - 1; i++) {
            due("skip to none", x.skip(1), PrinterRows.NONE);
        }
        due("39 blank pages", x.tally(0), MOST_PAGES - 1);
        int[] before = tallies(x);
        due("beyond the 40th, at none", x.skip(1), -6);
        x.channel(1, 0);
        due("beyond the 40th", x.skip(1), -6);
        dueTallies("nothing changed", x, before);
        due("no such channel", x.skip(13), 0);
        due("the 40th can be printed on", x.line('+'), MOST_PAGES);
        due("and is the last", x.skip(1), -6);
        PrinterRows y = new PrinterRows(4, 1);
        y.channel(1, 3);
        y.channel(2, 1);
        for (int i = 0; i < MOST_PAGES; i++) {
            y.skip(2);
        }
        due("on the last page", y.tally(0), MOST_PAGES - 1);
        due("on it", y.skip(1), 2);
        due("off it", y.skip(2), -6);
        due("pages", y.tally(0), MOST_PAGES - 1);
        due("line", y.tally(1), 3);
    }

    private static void end() {
        about("promise 6, end");
        PrinterRows x = new PrinterRows(4, 5);
        due("no page", x.end(), 0);
        print(x, "a", ' ', 1);
        due("one page", x.end(), 1);
        due("line 0", x.tally(1), 0);
        due("again: it stays so", x.end(), 1);
        print(x, "b", '+', 2);
        dueAt(x, 1, 0, 0, 'b');
        dueAt(x, 0, 1, 0, 'a');
        x.end();
        x.channel(1, 2);
        x.skip(1);
        due("moved, nothing printed: not begun", x.end(), 2);
        due("on its line 0", x.tally(1), 0);
        print(x, "c", '+', 3);
        dueAt(x, 2, 0, 0, 'c');
        x.sign('d');
        x.end();
        due("the record is left alone", x.tally(7), 1);
        PrinterRows y = onTheLastPage();
        due("behind the 40th", y.end(), MOST_PAGES);
        due("nothing is printed there", y.line('+'), -6);
    }

    private static void at() {
        about("promise 7, at");
        PrinterRows x = new PrinterRows(3, 4);
        dueNoPlace(x, 0, 0, 0);
        print(x, "ab", ' ', 1);
        dueAt(x, 0, 1, 0, 'a');
        dueAt(x, 0, 1, 1, 'b');
        dueAt(x, 0, 1, 2, ' ');
        dueAt(x, 0, 2, 3, ' ');
        int[] pages = {-1, 1, 39, 40, Integer.MIN_VALUE, Integer.MAX_VALUE};
        for (int page : pages) {
            dueNoPlace(x, page, 0, 0);
        }
        int[] outside = {-1, 4, 66, 132, Integer.MIN_VALUE, Integer.MAX_VALUE};
        for (int place : outside) {
            dueNoPlace(x, 0, place, 0);
            dueNoPlace(x, 0, 0, place);
        }
        dueNoPlace(x, 0, 3, 0);
        x.line(257);
        x.line(257);
        dueNoPlace(x, 1, 0, 0);
        x.line('+');
        dueAt(x, 1, 0, 0, ' ');
        x.back(1);
        dueNoPlace(x, 1, 0, 0);
        dueAt(x, 0, 1, 1, 'b');
    }

    private static void over() {
        about("promise 8, over");
        for (int a = 30; a <= 257; a++) {
            PrinterRows x = new PrinterRows(1, 1);
            for (int b = 30; b <= 257; b++) {
                boolean signs = a >= 32 && a <= 255 && b >= 32 && b <= 255;
                due("over(" + a + ", " + b + ")", x.over(a, b), signs ? Math.max(a, b) : PrinterRows.NONE);
            }
        }
        PrinterRows x = new PrinterRows(1, 1);
        due("the least", x.over(Integer.MIN_VALUE, 40), PrinterRows.NONE);
        due("the greatest", x.over(40, Integer.MAX_VALUE), PrinterRows.NONE);
    }

    private static void translate() {
        about("promise 9, translate");
        PrinterRows x = new PrinterRows(3, 6);
        signs(x, 'a', 1);
        due("a to b", x.translate('a', 'b'), 'a');
        due("b to c", x.translate('b', 'c'), 'b');
        print(x, "ab ", '+', 1);
        dueText(x, 0, 0, "bbc   ");
        due("a to a blank", x.translate('a', ' '), 'b');
        due("a blank to x", x.translate(' ', 'x'), ' ');
        print(x, "a a", ' ', 1);
        dueText(x, 0, 1, " x    ");
        dueText(x, 0, 0, "bbc   ");
        due("the first and the last sign", x.translate(32, 255), 'x');
        due("the last and the first sign", x.translate(255, 32), 255);
        int[] others = {31, 256, 0, -1, Integer.MIN_VALUE, Integer.MAX_VALUE};
        for (int c : others) {
            due("translate(" + c + ", 98)", x.translate(c, 98), PrinterRows.NONE);
            due("translate(97, " + c + ")", x.translate(97, c), PrinterRows.NONE);
        }
        due("a wrong call changed nothing", x.translate(97, 97), ' ');
    }

    private static void copies() {
        about("promise 10, copies");
        PrinterRows x = new PrinterRows(2, 1);
        int[] none = {0, 1, -1, 40, Integer.MAX_VALUE, Integer.MIN_VALUE};
        for (int page : none) {
            due("no page yet, " + page, x.copies(1, page, page), -2);
        }
        print(x, "a", '+', 1);
        x.end();
        print(x, "b", ' ', 2);
        x.end();
        print(x, "c", '+', 3);
        due("each time all of them", x.copies(2, 1, 2), 7);
        dueAt(x, 2, 0, 0, 'c');
        dueAt(x, 3, 1, 0, 'b');
        dueAt(x, 4, 0, 0, 'c');
        dueAt(x, 5, 1, 0, 'b');
        dueAt(x, 6, 0, 0, 'c');
        due("line 0", x.tally(1), 0);
        due("copies are not records", x.tally(2), 3);
        due("nor signs", x.tally(3), 3);
        print(x, "z", '+', 8);
        dueAt(x, 7, 0, 0, 'z');
        dueAt(x, 2, 0, 0, 'c');
        dueAt(x, 6, 0, 0, 'c');
        due("the page on which it stands", x.copies(1, 7, 7), 9);
        print(x, "|", '+', 10);
        dueAt(x, 7, 0, 0, 'z');
        dueAt(x, 8, 0, 0, 'z');
        dueCopiesRefused(x, 0, 0, 0, -2);
        dueCopiesRefused(x, 10, 0, 0, -2);
        dueCopiesRefused(x, -1, 0, 0, -2);
        dueCopiesRefused(x, Integer.MAX_VALUE, 0, 0, -2);
        dueCopiesRefused(x, Integer.MIN_VALUE, 0, 0, -2);
        dueCopiesRefused(x, 1, 1, 0, -2);
        dueCopiesRefused(x, 1, -1, 0, -2);
        dueCopiesRefused(x, 1, 0, 10, -2);
        dueCopiesRefused(x, 1, 10, 10, -2);
        dueCopiesRefused(x, 1, Integer.MIN_VALUE, Integer.MAX_VALUE, -2);
        dueCopiesRefused(x, 9, 0, Integer.MAX_VALUE, -2);
        dueCopiesRefused(x, 10, 0, 9, -2);
        dueCopiesRefused(x, 4, 0, 9, -6);
        dueCopiesRefused(x, 9, 0, 9, -6);
        due("pages in the middle", x.copies(6, 5, 9), MOST_PAGES);
        due("taken back", x.back(30), 10);
        due("just 40", x.copies(3, 0, 9), MOST_PAGES);
        dueAt(x, 39, 0, 0, '|');
        dueAt(x, 30, 0, 0, 'a');
        dueCopiesRefused(x, 1, 0, 0, -6);
        due("no place behind", x.line('+'), -6);
        copiesBehindANewPage();
    }

    private static void copiesBehindANewPage() {
        PrinterRows x = new PrinterRows(5, 1);
        x.channel(1, 3);
        print(x, "a", '+', 1);
        x.end();
        x.skip(1);
        due("a new page is not counted", x.copies(9, 0, 0), 10);
        due("line 0", x.tally(1), 0);
        dueAt(x, 1, 0, 0, 'a');
        x.back(9);
        print(x, "b", '+', 2);
        dueAt(x, 0, 0, 0, 'a');
        dueAt(x, 1, 0, 0, 'b');
    }

    private static void dueCopiesRefused(PrinterRows x, int n, int from, int to, int want) {
        int[] before = tallies(x);
        String call = "copies(" + n + ", " + from + ", " + to + ")";
        due(call, x.copies(n, from, to), want);
        dueTallies(call + " changes nothing", x, before);
    }

    private static void back() {
        about("promise 11, back");
        PrinterRows x = new PrinterRows(3, 1);
        due("none of none", x.back(0), 0);
        due("one of none", x.back(1), -2);
        print(x, "a", ' ', 1);
        x.end();
        print(x, "b", ' ', 2);
        x.end();
        print(x, "c", ' ', 3);
        due("more than there are", x.back(4), -2);
        due("below 0", x.back(-1), -2);
        due("the least", x.back(Integer.MIN_VALUE), -2);
        due("the greatest", x.back(Integer.MAX_VALUE), -2);
        due("a wrong call does not move", x.tally(1), 1);
        due("0: as end()", x.back(0), 3);
        due("line 0", x.tally(1), 0);
        print(x, "d", '+', 4);
        due("two", x.back(2), 2);
        due("line 0 again", x.tally(1), 0);
        dueAt(x, 1, 1, 0, 'b');
        dueNoPlace(x, 2, 0, 0);
        print(x, "e", '+', 3);
        dueAt(x, 2, 0, 0, 'e');
        dueAt(x, 2, 1, 0, ' ');
        dueAt(x, 1, 0, 0, ' ');
        due("what was printed stays counted", x.tally(2), 5);
        due("all", x.back(3), 0);
        due("no page", x.tally(0), 0);
        dueNoPlace(x, 0, 0, 0);
        PrinterRows y = onTheLastPage();
        due("one of 40", y.back(1), 39);
        print(y, "m", '+', MOST_PAGES);
        dueAt(y, 39, 0, 0, 'm');
        due("all of 40", y.back(MOST_PAGES), 0);
    }

    private static void forms() {
        about("promise 12, forms");
        PrinterRows x = new PrinterRows(4, 1);
        due("kind 0 at first", x.forms(0), 1);
        print(x, "a", ' ', 1);
        due("mounted: the page goes on", x.forms(0), 1);
        due("line", x.tally(1), 1);
        due("below 0", x.forms(-1), -2);
        due("the least", x.forms(Integer.MIN_VALUE), -2);
        due("a wrong call does not end the page", x.tally(1), 1);
        due("not asked yet", x.tally(6), 0);
        due("another kind", x.forms(3), 2);
        due("the page is over", x.tally(1), 0);
        due("asked once", x.tally(6), 1);
        due("mounted then", x.forms(3), 1);
        print(x, "b", '+', 2);
        due("back to kind 0", x.forms(0), 2);
        due("the greatest kind", x.forms(Integer.MAX_VALUE), 2);
        due("mounted", x.forms(Integer.MAX_VALUE), 1);
        due("asked three times", x.tally(6), 3);
        due("a page not begun stays so", x.tally(0), 2);
        print(x, "c", '+', 3);
        dueAt(x, 2, 0, 0, 'c');
    }

    private static void tally() {
        about("promise 13, tally");
        PrinterRows x = new PrinterRows(3, 4);
        x.translate('a', ' ');
        x.translate('_', 'u');
        print(x, "ab _xx ", '+', 1);
        due("records", x.tally(2), 1);
        due("signs: b and u", x.tally(3), 2);
        due("cut: x, x and a blank", x.tally(4), 3);
        print(x, "!!", '+', 1);
        due("signs that are lighter count, too", x.tally(3), 4);
        x.line(' ');
        due("a record with no sign counts", x.tally(2), 3);
        x.sign('q');
        x.sign(' ');
        due("signs of the record", x.tally(7), 2);
        x.skip(5);
        x.line('5');
        x.line(277);
        due("skips to none", x.tally(5), 3);
        x.forms(1);
        x.forms(1);
        due("forms", x.tally(6), 1);
        due("pages", x.tally(0), 3);
        due("line", x.tally(1), 0);
        int[] others = {-1, 8, 9, Integer.MIN_VALUE, Integer.MAX_VALUE};
        for (int what : others) {
            due("tally(" + what + ")", x.tally(what), PrinterRows.NONE);
        }
    }

    private static void exampleOfTheReadme() {
        about("the example in README.md");
        PrinterRows printer = new PrinterRows(66, 132);
        due("channel(1, 0)", printer.channel(1, 0), PrinterRows.NONE);
        printer.sign('H');
        printer.sign('i');
        due("line(' ')", printer.line(' '), 1);
        dueAt(printer, 0, 1, 0, 'H');
        due("skip(1)", printer.skip(1), 65);
        due("copies(2, 0, 0)", printer.copies(2, 0, 0), 3);
        dueAt(printer, 2, 1, 1, 'i');
        due("back(1)", printer.back(1), 2);
        due("tally(3)", printer.tally(3), 2);
    }
}
