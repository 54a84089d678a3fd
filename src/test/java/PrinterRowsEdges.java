/**
 * A test for each sentence of the document that names a boundary case: too small, too large, empty, full,
 * a wrap-around, a refused call. The sentence stands at the head of its test.
 */
public final class PrinterRowsEdges extends Dues {
    private static final int NONE = PrinterRows.NONE;
    private static final int LEAST = Integer.MIN_VALUE;
    private static final int GREATEST = Integer.MAX_VALUE;

    public static void main(String[] args) {
        terms();
        codes();
        the41stPage();
        newObject();
        channel();
        sign();
        line();
        skip();
        end();
        at();
        over();
        translate();
        copies();
        back();
        forms();
        tally();
        endWith("every sentence about an edge holds");
    }

    // Terms

    private static void terms() {
        aPlaceIsBlankAtFirst();
        withoutAPageOnLineNought();
        fromTheLastLineToANewPage();
        anEmptyRecordBeginsItsPage();
        aNewPageIsBegunWhenTheNextOneComes();
        skippingMovesAtLeastByALine();
        aChannelAtNoneIsAPageAway();
        whatIsBeyondTheLastColumnIsCut();
        theDarkerStays();
    }

    private static void aPlaceIsBlankAtFirst() {
        about("Terms: a place has a sign 32 .. 255, a blank (32) at first");
        PrinterRows x = new PrinterRows(3, 4);
        x.line('+');
        for (int line = 0; line < 3; line++) {
            dueText(x, 0, line, "    ");
        }
        PrinterRows y = new PrinterRows(1, 2);
        y.sign(255);
        y.sign(32);
        y.line('+');
        dueAt(y, 0, 0, 0, 255);
        dueAt(y, 0, 0, 1, 32);
    }

    private static void withoutAPageOnLineNought() {
        about("Terms: without a page, on line 0 of one that isn't begun");
        PrinterRows x = new PrinterRows(5, 5);
        due("pages", x.tally(0), 0);
        due("line", x.tally(1), 0);
        print(x, "a", ' ', 1);
        due("all taken back", x.back(1), 0);
        due("line", x.tally(1), 0);
        print(x, "b", 256, 1);
        dueAt(x, 0, 0, 0, 'b');
    }

    private static void fromTheLastLineToANewPage() {
        about("Terms: from the last line it comes to line 0 of a new page, which is not begun yet");
        PrinterRows x = new PrinterRows(3, 1);
        print(x, "a", 258, 1);
        due("the last line", x.tally(1), 2);
        print(x, "b", 257, 1);
        due("a new page's line 0", x.tally(1), 0);
        dueNoPlace(x, 1, 0, 0);
        print(x, "c", '+', 2);
        dueAt(x, 0, 2, 0, 'b');
        dueAt(x, 1, 0, 0, 'c');
        PrinterRows y = new PrinterRows(1, 1);
        print(y, "a", 257, 1);
        due("the only line is the last one", y.tally(1), 0);
        dueNoPlace(y, 1, 0, 0);
    }

    private static void anEmptyRecordBeginsItsPage() {
        about("Terms: a page is begun when a record is printed on it (be it empty)");
        PrinterRows x = new PrinterRows(2, 2);
        due("line(43)", x.line('+'), 1);
        dueAt(x, 0, 0, 0, ' ');
        x.end();
        due("line(256)", x.line(256), 2);
        due("records", x.tally(2), 2);
        due("signs", x.tally(3), 0);
    }

    private static void aNewPageIsBegunWhenTheNextOneComes() {
        about("Terms: a new page of which nothing was printed when the next one comes is begun, too, then (blank)");
        PrinterRows x = new PrinterRows(2, 1);
        x.channel(1, 1);
        due("to its last line", x.skip(1), 1);
        due("not yet", x.tally(0), 0);
        due("to the next", x.skip(1), 2);
        due("then", x.tally(0), 1);
        dueAt(x, 0, 0, 0, ' ');
        dueAt(x, 0, 1, 0, ' ');
        dueNoPlace(x, 1, 0, 0);
        PrinterRows y = new PrinterRows(1, 1);
        print(y, "a", 259, 3);
        dueAt(y, 0, 0, 0, 'a');
        dueAt(y, 1, 0, 0, ' ');
        dueAt(y, 2, 0, 0, ' ');
        dueNoPlace(y, 3, 0, 0);
    }

    private static void skippingMovesAtLeastByALine() {
        about("Terms: skipping to a channel moves, at least by a line");
        PrinterRows x = new PrinterRows(4, 1);
        x.channel(1, 0);
        due("from its line to its line", x.skip(1), 4);
        due("line", x.tally(1), 0);
        due("pages", x.tally(0), 1);
        x.channel(2, 3);
        due("to the last line", x.skip(2), 3);
        due("from the last to the first", x.skip(1), 1);
        PrinterRows y = new PrinterRows(1, 1);
        y.channel(12, 0);
        due("on a page of one line", y.skip(12), 1);
        due("pages", y.tally(0), 1);
    }

    private static void aChannelAtNoneIsAPageAway() {
        about("Terms: if it is at none, by as many lines as a page has: to the same line of the next page");
        int[] codes = {'1', 273};
        for (int line = 0; line < 3; line++) {
            for (int code : codes) {
                PrinterRows x = new PrinterRows(3, 1);
                x.channel(2, line);
                print(x, "a", line == 0 ? '+' : '2', 1);
                x.line(code);
                due("line " + line + " by code " + code, x.tally(1), line);
                x.sign('b');
                x.line('+');
                dueAt(x, 1, line, 0, 'b');
                due("pages", x.tally(0), 2);
            }
        }
    }

    private static void whatIsBeyondTheLastColumnIsCut() {
        about("Terms: its signs come to columns 0, 1, ..; those beyond the last column are cut");
        PrinterRows x = new PrinterRows(3, 3);
        print(x, "abc", '+', 1);
        due("just as many", x.tally(4), 0);
        print(x, "defg", ' ', 1);
        due("one more", x.tally(4), 1);
        dueText(x, 0, 1, "def");
        dueText(x, 0, 2, "   ");
        PrinterRows y = new PrinterRows(1, 1);
        signs(y, 'q', 200);
        y.line('+');
        due("all but one", y.tally(4), 199);
        due("one", y.tally(3), 1);
    }

    private static void theDarkerStays() {
        about("Terms: the darker of the two stays: a blank is the lightest, of others the greater number is darker");
        PrinterRows x = new PrinterRows(1, 5);
        int[] there = {32, 33, 254, 255, 100};
        int[] comes = {33, 32, 255, 254, 100};
        int[] stays = {33, 33, 255, 255, 100};
        printSigns(x, there);
        printSigns(x, comes);
        for (int column = 0; column < stays.length; column++) {
            dueAt(x, 0, 0, column, stays[column]);
        }
    }

    private static void printSigns(PrinterRows x, int[] signs) {
        for (int c : signs) {
            x.sign(c);
        }
        x.line('+');
    }

    // Codes

    private static void codes() {
        codesOfTheFirstKind();
        codesOfTheSecondKind();
        eachOtherCodeIsAs32();
        theFirstRecordOfAPageMovesToo();
    }

    private static void codesOfTheFirstKind() {
        about("Terms: first kind, the carriage moves, then the record is printed");
        int[] codes = {'+', ' ', '0', '-', '1', '9', 'A', 'C'};
        int[] lines = {0, 1, 2, 3, 11, 19, 20, 22};
        for (int i = 0; i < codes.length; i++) {
            dueMove(codes[i], lines[i], lines[i]);
        }
    }

    private static void codesOfTheSecondKind() {
        about("Terms: second kind, the record is printed, then the carriage moves");
        int[] codes = {256, 257, 258, 259, 273, 284};
        int[] lines = {0, 1, 2, 3, 11, 22};
        for (int i = 0; i < codes.length; i++) {
            dueMove(codes[i], 0, lines[i]);
        }
    }

    private static void eachOtherCodeIsAs32() {
        about("Terms: each other code is as 32");
        int[] codes = {LEAST, -1, 0, 31, 33, 42, 44, 46, 47, 58, 64, 68, 255, 260, 271, 272, 285, GREATEST,
            256 + 256, 256 + 273, 32 - 256, 43 + 65536};
        for (int code : codes) {
            dueMove(code, 1, 1);
        }
    }

    /** On a new printer whose channels 1 .. 12 are at lines 11 .. 22. */
    private static void dueMove(int code, int printedOn, int standsOn) {
        PrinterRows x = new PrinterRows(30, 1);
        for (int c = 1; c <= 12; c++) {
            x.channel(c, 10 + c);
        }
        print(x, "x", code, 1);
        dueAt(x, 0, printedOn, 0, 'x');
        due("line by code " + code, x.tally(1), standsOn);
        due("skips to none by code " + code, x.tally(5), 0);
    }

    private static void theFirstRecordOfAPageMovesToo() {
        about("Terms: the very first record of a page by the first kind moves, too (43 prints on its line 0)");
        PrinterRows x = new PrinterRows(4, 1);
        x.channel(1, 0);
        print(x, "a", '+', 1);
        dueAt(x, 0, 0, 0, 'a');
        x.end();
        print(x, "b", ' ', 2);
        dueAt(x, 1, 0, 0, ' ');
        dueAt(x, 1, 1, 0, 'b');
        x.end();
        print(x, "c", '1', 4);
        dueAt(x, 2, 0, 0, ' ');
        dueAt(x, 3, 0, 0, 'c');
        x.end();
        print(x, "d", '-', 5);
        dueAt(x, 4, 3, 0, 'd');
    }

    // The 41st page

    private static void the41stPage() {
        about("Terms: what would begin the 41st page prints nothing, and does not move: nothing changes");
        int[] fromThe40th = {' ', '0', '-', '1', 'C', '2', 258, 259, 0};
        for (int code : fromThe40th) {
            PrinterRows x = onTheLastPage();
            x.channel(2, 0);
            dueLineRefused(x, code);
        }
        int[] fromBehindIt = {' ', '0', '-', '+', '1', '2', 256, 257, 258, 259, 273, 274, 0};
        for (int code : fromBehindIt) {
            PrinterRows x = onTheLastPage();
            x.channel(2, 0);
            x.end();
            dueLineRefused(x, code);
        }
        onTheLastLineOfThe40th();
        whatBeginsNoPageIsDone();
    }

    private static void dueLineRefused(PrinterRows x, int code) {
        x.sign('z');
        dueUnchanged("line(" + code + ")", x, 1, 1, () -> x.line(code), -6);
        x.back(1);
        due("the record that was kept", x.line('+'), MOST_PAGES);
        dueAt(x, 39, 0, 0, 'z');
    }

    private static void onTheLastLineOfThe40th() {
        PrinterRows x = new PrinterRows(2, 1);
        x.line('+');
        x.copies(9, 0, 0);
        x.copies(3, 0, 8);
        x.copies(2, 0, 0);
        print(x, "a", '+', MOST_PAGES);
        print(x, "b", ' ', MOST_PAGES);
        dueAt(x, 39, 1, 0, 'b');
        x.sign('c');
        dueUnchanged("over the last line", x, 2, 1, () -> x.line(' '), -6);
        dueUnchanged("behind it and over a line", x, 2, 1, () -> x.line('-'), -6);
    }

    private static void whatBeginsNoPageIsDone() {
        PrinterRows x = onTheLastPage();
        print(x, "m", 257, MOST_PAGES);
        dueAt(x, 39, 0, 0, 'm');
        dueUnchanged("behind it", x, 1, 1, () -> x.line('+'), -6);
        PrinterRows y = onTheLastPage();
        print(y, "n", 273, MOST_PAGES);
        due("a skip to none is done", y.tally(5), 1);
        dueUnchanged("behind it", y, 1, 1, () -> y.line(256), -6);
    }

    // Promise 1

    private static void newObject() {
        numbersOutsideAreHeld();
        aNewPrinterIsEmpty();
        eachSignIsTranslatedToItself();
    }

    private static void numbersOutsideAreHeld() {
        about("Promise 1: numbers outside are held to their range");
        int[] given = {LEAST, -1, 0, 1, 2, 65, 66, 67, GREATEST};
        int[] lines = {1, 1, 1, 1, 2, 65, 66, 66, 66};
        for (int i = 0; i < given.length; i++) {
            PrinterRows x = new PrinterRows(given[i], 1);
            x.line('+');
            dueAt(x, 0, lines[i] - 1, 0, ' ');
            dueNoPlace(x, 0, lines[i], 0);
            due("the last line", x.channel(1, lines[i] - 1), NONE);
            due("no such line", x.channel(1, lines[i]), -2);
        }
        int[] givenColumns = {LEAST, -1, 0, 1, 2, 131, 132, 133, GREATEST};
        int[] columns = {1, 1, 1, 1, 2, 131, 132, 132, 132};
        for (int i = 0; i < givenColumns.length; i++) {
            PrinterRows x = new PrinterRows(1, givenColumns[i]);
            signs(x, 'q', 200);
            x.line('+');
            dueAt(x, 0, 0, columns[i] - 1, 'q');
            dueNoPlace(x, 0, 0, columns[i]);
            due("signs cut", x.tally(4), 200 - columns[i]);
        }
    }

    private static void aNewPrinterIsEmpty() {
        about("Promise 1: no page, no record, no channels");
        PrinterRows x = new PrinterRows(2, 2);
        for (int what = 0; what <= 7; what++) {
            due("tally(" + what + ")", x.tally(what), 0);
        }
        dueNoPlace(x, 0, 0, 0);
        for (int c = 1; c <= 12; c++) {
            due("channel(" + c + ", 1)", x.channel(c, 1), NONE);
        }
        PrinterRows y = new PrinterRows(2, 2);
        for (int c = 1; c <= 12; c++) {
            due("skip(" + c + ")", y.skip(c), NONE);
        }
    }

    private static void eachSignIsTranslatedToItself() {
        about("Promise 1: each sign is translated to itself");
        for (int c = 32; c <= 255; c++) {
            PrinterRows x = new PrinterRows(1, 1);
            x.sign(c);
            x.line('+');
            dueAt(x, 0, 0, 0, c);
            due("translate(" + c + ", 40)", x.translate(c, 40), c);
        }
    }

    // Promise 2

    private static void channel() {
        about("Promise 2: the line where it was, NONE for none");
        PrinterRows x = new PrinterRows(6, 1);
        int[] channels = {1, 12};
        for (int c : channels) {
            due("the first line", x.channel(c, 0), NONE);
            due("the last line", x.channel(c, 5), 0);
            due("the same line again", x.channel(c, 5), 5);
            due("none", x.channel(c, NONE), 5);
            due("none again", x.channel(c, NONE), NONE);
        }
        due("two channels", x.channel(3, 4), NONE);
        due("at one line", x.channel(4, 4), NONE);
        due("down to both", x.skip(3), 4);
        due("from the one to the other", x.skip(4), 6);
        noSuchChannelOrLine();
    }

    private static void noSuchChannelOrLine() {
        about("Promise 2: -2 when there is no such channel or line");
        int[] noChannels = {LEAST, -1, 0, 13, 14, GREATEST};
        int[] noLines = {LEAST, -2, 6, 7, 66, GREATEST};
        PrinterRows x = new PrinterRows(6, 1);
        x.channel(1, 2);
        x.channel(12, 3);
        for (int c : noChannels) {
            due("channel(" + c + ", 0)", x.channel(c, 0), -2);
            due("channel(" + c + ", NONE)", x.channel(c, NONE), -2);
            due("channel(" + c + ", 6)", x.channel(c, 6), -2);
        }
        for (int line : noLines) {
            due("channel(1, " + line + ")", x.channel(1, line), -2);
            due("channel(12, " + line + ")", x.channel(12, line), -2);
        }
        due("1 is where it was", x.channel(1, 2), 2);
        due("12 is where it was", x.channel(12, 3), 3);
    }

    // Promise 3

    private static void sign() {
        about("Promise 3: c modulo 256; below 32: a blank");
        int[] given = {LEAST, -257, -256, -255, -225, -224, -223, -2, -1, 0, 1, 31, 32, 33, 254, 255, 256, 287, 288,
            289, 511, 512, GREATEST};
        int[] printed = {32, 255, 32, 32, 32, 32, 33, 254, 255, 32, 32, 32, 32, 33, 254, 255, 32, 32, 32,
            33, 255, 32, 255};
        for (int i = 0; i < given.length; i++) {
            PrinterRows x = new PrinterRows(1, 1);
            x.sign(given[i]);
            due("signs of the record", x.tally(7), 1);
            x.line('+');
            dueAt(x, 0, 0, 0, printed[i]);
            due("sign(" + given[i] + ") is counted", x.tally(3), printed[i] == 32 ? 0 : 1);
        }
        the201stIsLost();
    }

    private static void the201stIsLost() {
        about("Promise 3: the 201st and more are lost");
        PrinterRows x = new PrinterRows(2, 132);
        signs(x, 'a', 199);
        due("199", x.tally(7), 199);
        x.sign('b');
        due("200", x.tally(7), 200);
        x.sign('c');
        due("201", x.tally(7), 200);
        x.sign(LEAST);
        due("202", x.tally(7), 200);
        x.line('+');
        due("68 are cut", x.tally(4), 68);
        due("132 are printed", x.tally(3), 132);
        due("none is left", x.tally(7), 0);
        signs(x, 'd', 201);
        due("200 again", x.tally(7), 200);
    }

    // Promise 4

    private static void line() {
        about("Promise 4: the record is printed by a code, and is empty then");
        int[] codes = {'+', ' ', '1', 256, 257, 273, 0};
        for (int code : codes) {
            PrinterRows x = new PrinterRows(2, 2);
            signs(x, 'a', 3);
            x.line(code);
            due("no sign is left by code " + code, x.tally(7), 0);
            due("records", x.tally(2), 1);
            x.end();
            int page = x.tally(0);
            due("an empty one", x.line('+'), page + 1);
            dueText(x, page, 0, "  ");
        }
        moreThan40();
    }

    private static void moreThan40() {
        about("Promise 4: how many pages are begun; -6, changing nothing, when there would be more than 40");
        PrinterRows x = new PrinterRows(1, 1);
        for (int page = 1; page <= MOST_PAGES; page++) {
            due("one more", x.line(page == 1 ? '+' : ' '), page);
        }
        x.sign('z');
        dueUnchanged("the 41st", x, 1, 1, () -> x.line(' '), -6);
        due("on the 40th", x.line('+'), MOST_PAGES);
        PrinterRows y = onTheLastPage();
        y.back(2);
        dueUnchanged("three at once, with two to go", y, 1, 1, () -> y.line('0'), -6);
        due("two at once", y.line(' '), MOST_PAGES);
        PrinterRows z = onTheLastPage();
        z.back(2);
        dueUnchanged("printed, and by three lines", z, 1, 1, () -> z.line(259), -6);
        due("printed, and by two", z.line(258), MOST_PAGES);
    }

    // Promise 5

    private static void skip() {
        byHowManyLines();
        noSuchChannel();
        noneAfterItMoved();
        beyondThe40thPage();
    }

    private static void byHowManyLines() {
        about("Promise 5: the carriage skips to a channel: by how many lines");
        for (int from = 0; from < 4; from++) {
            for (int to = 0; to < 4; to++) {
                PrinterRows x = new PrinterRows(4, 1);
                x.channel(1, from);
                x.channel(12, to);
                if (from > 0) {
                    x.skip(1);
                }
                due("from " + from + " to " + to, x.skip(12), to > from ? to - from : to - from + 4);
                due("line", x.tally(1), to);
                due("pages", x.tally(0), to > from ? 0 : 1);
            }
        }
        PrinterRows y = new PrinterRows(66, 1);
        y.channel(1, 65);
        due("to the last line of 66", y.skip(1), 65);
        due("and to the next", y.skip(1), 66);
    }

    private static void noSuchChannel() {
        about("Promise 5: 0 when there is none such");
        int[] none = {LEAST, -1, 0, 13, 14, 273, GREATEST};
        PrinterRows x = new PrinterRows(3, 1);
        x.line(257);
        x.sign('a');
        for (int c : none) {
            dueUnchanged("skip(" + c + ")", x, 3, 1, () -> x.skip(c), 0);
        }
        PrinterRows y = onTheLastPage();
        y.end();
        dueUnchanged("behind the 40th page", y, 1, 1, () -> y.skip(13), 0);
    }

    private static void noneAfterItMoved() {
        about("Promise 5: NONE, after it moved, when it is at no line");
        PrinterRows x = new PrinterRows(3, 1);
        print(x, "a", ' ', 1);
        x.sign('b');
        due("skip(1)", x.skip(1), NONE);
        due("the same line", x.tally(1), 1);
        due("the page is not begun", x.tally(0), 1);
        due("it is counted", x.tally(5), 1);
        due("the record is left", x.tally(7), 1);
        due("skip(12)", x.skip(12), NONE);
        due("now it is, blank", x.tally(0), 2);
        due("line(43)", x.line('+'), 3);
        dueAt(x, 2, 1, 0, 'b');
        x.channel(1, 2);
        due("it is at a line now", x.skip(1), 1);
        x.channel(1, NONE);
        due("and at none again", x.skip(1), NONE);
    }

    private static void beyondThe40thPage() {
        about("Promise 5: -6 when that would be beyond the 40th page");
        PrinterRows x = onTheLastPage();
        x.sign('z');
        dueUnchanged("off the 40th, at none", x, 1, 1, () -> x.skip(1), -6);
        x.channel(1, 0);
        dueUnchanged("off the 40th, at a line", x, 1, 1, () -> x.skip(1), -6);
        due("it still stands on the 40th", x.line('+'), MOST_PAGES);
        dueAt(x, 39, 0, 0, 'z');
        x.end();
        dueUnchanged("behind the 40th, at a line", x, 1, 1, () -> x.skip(1), -6);
        dueUnchanged("behind the 40th, at none", x, 1, 1, () -> x.skip(2), -6);
        x.back(2);
        due("to the 40th", x.skip(1), 1);
        due("the 39th is begun by that", x.tally(0), MOST_PAGES - 1);
        dueUnchanged("off the 40th, which is not begun", x, 1, 1, () -> x.skip(1), -6);
        due("the 40th is begun", x.line('+'), MOST_PAGES);
        onThe40thPageAndBehindIt();
    }

    private static void onThe40thPageAndBehindIt() {
        PrinterRows x = new PrinterRows(3, 1);
        x.line('+');
        x.copies(9, 0, 0);
        x.copies(3, 0, 8);
        x.copies(2, 0, 0);
        x.channel(1, 1);
        x.channel(2, 2);
        due("on the 40th", x.skip(1), 1);
        due("on the 40th, to its last line", x.skip(2), 1);
        dueUnchanged("off it", x, 3, 1, () -> x.skip(1), -6);
        print(x, "a", 257, MOST_PAGES);
        due("the record's own move came behind it", x.tally(1), 0);
        dueUnchanged("down the 41st", x, 3, 1, () -> x.skip(1), -6);
    }

    // Promise 6

    private static void end() {
        about("Promise 6: the page on which it stands is over: it stands on line 0 of a new one");
        int[] codes = {'+', ' ', '0'};
        for (int code : codes) {
            PrinterRows x = new PrinterRows(3, 1);
            print(x, "a", code, 1);
            due("end()", x.end(), 1);
            due("line 0", x.tally(1), 0);
            dueNoPlace(x, 1, 0, 0);
            print(x, "b", '+', 2);
            dueAt(x, 1, 0, 0, 'b');
        }
        PrinterRows y = onTheLastPage();
        due("the 40th is over", y.end(), MOST_PAGES);
        due("it was the last", y.line('+'), -6);
        onePageThatIsNotBegunStaysSo();
    }

    private static void onePageThatIsNotBegunStaysSo() {
        about("Promise 6: one that is not begun stays so, the printer on its line 0");
        PrinterRows x = new PrinterRows(3, 1);
        due("no page", x.end(), 0);
        due("no page still", x.end(), 0);
        x.channel(1, 2);
        x.skip(1);
        due("it had moved", x.end(), 0);
        due("its line 0", x.tally(1), 0);
        print(x, "a", '+', 1);
        dueAt(x, 0, 0, 0, 'a');
        x.end();
        dueUnchanged("again", x, 3, 1, x::end, 1);
        PrinterRows y = onTheLastPage();
        y.end();
        dueUnchanged("behind the 40th", y, 1, 1, y::end, MOST_PAGES);
    }

    // Promise 7

    private static void at() {
        about("Promise 7: ArrayIndexOutOfBoundsException when there is no such page (begun), line or column");
        PrinterRows x = new PrinterRows(3, 5);
        dueNoPlace(x, 0, 0, 0);
        print(x, "abcde", '+', 1);
        x.end();
        print(x, "fghij", '0', 2);
        dueAt(x, 0, 0, 0, 'a');
        dueAt(x, 1, 2, 4, 'j');
        int[] noPages = {LEAST, -1, 2, 3, 39, 40, 41, GREATEST};
        int[] noLines = {LEAST, -1, 3, 4, 65, 66, GREATEST};
        int[] noColumns = {LEAST, -1, 5, 6, 131, 132, GREATEST};
        for (int page : noPages) {
            dueNoPlace(x, page, 0, 0);
        }
        for (int line : noLines) {
            dueNoPlace(x, 0, line, 0);
        }
        for (int column : noColumns) {
            dueNoPlace(x, 0, 0, column);
        }
        dueNoPlace(x, -1, -1, -1);
        dueNoPlace(x, GREATEST, GREATEST, GREATEST);
        dueAt(x, 1, 2, 4, 'j');
        aPageThatIsNotBegun();
    }

    private static void aPageThatIsNotBegun() {
        PrinterRows x = new PrinterRows(2, 1);
        x.channel(1, 1);
        x.skip(1);
        dueNoPlace(x, 0, 1, 0);
        x.skip(1);
        dueAt(x, 0, 1, 0, ' ');
        dueNoPlace(x, 1, 1, 0);
        x.back(1);
        dueNoPlace(x, 0, 1, 0);
        PrinterRows y = onTheLastPage();
        dueAt(y, 39, 0, 0, 'k');
        dueNoPlace(y, 40, 0, 0);
        y.end();
        dueNoPlace(y, 40, 0, 0);
    }

    // Promise 8

    private static void over() {
        about("Promise 8: two signs joined; NONE when one is not 32 .. 255");
        PrinterRows x = new PrinterRows(1, 1);
        int[] no = {LEAST, -1, 0, 31, 256, 257, 32 + 256, GREATEST};
        int[] yes = {32, 33, 254, 255};
        for (int a : no) {
            for (int b : yes) {
                due("over(" + a + ", " + b + ")", x.over(a, b), NONE);
                due("over(" + b + ", " + a + ")", x.over(b, a), NONE);
            }
            due("over(" + a + ", " + a + ")", x.over(a, a), NONE);
        }
        for (int i = 0; i < yes.length; i++) {
            for (int j = 0; j < yes.length; j++) {
                due("over(" + yes[i] + ", " + yes[j] + ")", x.over(yes[i], yes[j]), yes[Math.max(i, j)]);
            }
        }
        x.translate(33, 200);
        due("joining translates nothing", x.over(33, 34), 34);
    }

    // Promise 9

    private static void translate() {
        about("Promise 9: a sign is printed as another one from now on: what it was printed as");
        PrinterRows x = new PrinterRows(4, 2);
        print(x, "a", '+', 1);
        x.sign('a');
        due("a as b", x.translate('a', 'b'), 'a');
        x.line(' ');
        dueAt(x, 0, 0, 0, 'a');
        dueAt(x, 0, 1, 0, 'b');
        due("b as a: not once more", x.translate('b', 'a'), 'b');
        print(x, "ab", ' ', 1);
        dueText(x, 0, 2, "ba");
        due("a as itself again", x.translate('a', 'a'), 'b');
        print(x, "ab", ' ', 1);
        dueText(x, 0, 3, "aa");
        theFirstAndTheLastSign();
        noneWhenOneIsNotSo();
    }

    private static void theFirstAndTheLastSign() {
        PrinterRows x = new PrinterRows(1, 4);
        due("32 as 255", x.translate(32, 255), 32);
        due("255 as 32", x.translate(255, 32), 255);
        x.sign(32);
        x.sign(255);
        x.sign(31);
        x.line('+');
        dueAt(x, 0, 0, 0, 255);
        dueAt(x, 0, 0, 1, 32);
        dueAt(x, 0, 0, 2, 255);
        dueAt(x, 0, 0, 3, 32);
        due("signs printed", x.tally(3), 2);
    }

    private static void noneWhenOneIsNotSo() {
        about("Promise 9: NONE when one is not so (32 .. 255)");
        PrinterRows x = new PrinterRows(1, 1);
        x.translate('a', 'b');
        int[] no = {LEAST, -1, 0, 31, 256, 257, 'a' + 256, GREATEST};
        for (int c : no) {
            due("translate(" + c + ", 98)", x.translate(c, 98), NONE);
            due("translate(97, " + c + ")", x.translate('a', c), NONE);
            due("translate(" + c + ", " + c + ")", x.translate(c, c), NONE);
        }
        due("nothing changed", x.translate('a', 'a'), 'b');
    }

    // Promise 10

    private static void copies() {
        eachTimeAllOfThem();
        itStandsBehindThem();
        nIsNotOneToNine();
        noSuchPages();
        copiesUpTo40();
    }

    private static void eachTimeAllOfThem() {
        about("Promise 10: pages from .. to come n times more behind all (each time all of them)");
        PrinterRows x = threePages();
        due("once, one", x.copies(1, 2, 2), 4);
        due("nine times, one", x.copies(9, 0, 0), 13);
        due("twice, all", x.copies(2, 0, 12), 39);
        String all = "abccaaaaaaaaa";
        for (int page = 0; page < 39; page++) {
            dueAt(x, page, 0, 0, all.charAt(page % 13));
        }
    }

    private static PrinterRows threePages() {
        PrinterRows x = new PrinterRows(1, 1);
        print(x, "a", '+', 1);
        print(x, "b", ' ', 2);
        print(x, "c", ' ', 3);
        return x;
    }

    private static void itStandsBehindThem() {
        about("Promise 10: and the printer stands behind them as by end()");
        PrinterRows x = new PrinterRows(3, 1);
        print(x, "a", ' ', 1);
        x.sign('b');
        due("the page on which it stands", x.copies(1, 0, 0), 2);
        due("line 0", x.tally(1), 0);
        due("records", x.tally(2), 1);
        due("signs printed", x.tally(3), 1);
        due("the record is left", x.tally(7), 1);
        dueNoPlace(x, 2, 0, 0);
        due("behind", x.line('+'), 3);
        dueAt(x, 0, 0, 0, ' ');
        dueAt(x, 1, 0, 0, ' ');
        dueAt(x, 2, 0, 0, 'b');
        x.end();
        x.skip(1);
        due("a page on which nothing was printed", x.tally(0), 4);
        due("is none to be copied", x.copies(1, 4, 4), -2);
        due("nor is it begun by copies", x.copies(1, 0, 3), 8);
    }

    private static void nIsNotOneToNine() {
        about("Promise 10: -2 when n is not 1 .. 9");
        int[] no = {LEAST, -1, 0, 10, 11, 40, GREATEST};
        for (int n : no) {
            PrinterRows x = threePages();
            dueUnchanged("copies(" + n + ", 0, 0)", x, 1, 1, () -> x.copies(n, 0, 0), -2);
            dueUnchanged("copies(" + n + ", 0, 2)", x, 1, 1, () -> x.copies(n, 0, 2), -2);
        }
        for (int n = 1; n <= 9; n++) {
            due("copies(" + n + ", 0, 2)", threePages().copies(n, 0, 2), 3 + 3 * n);
        }
    }

    private static void noSuchPages() {
        about("Promise 10: -2 when there are no such pages");
        int[][] no = {{-1, 0}, {-1, -1}, {0, -1}, {0, 3}, {3, 3}, {1, 0}, {2, 1}, {2, 0}, {0, 40}, {40, 40},
            {LEAST, 0}, {0, GREATEST}, {LEAST, GREATEST}, {GREATEST, LEAST}, {GREATEST, GREATEST}, {LEAST, LEAST}};
        for (int[] pages : no) {
            PrinterRows x = threePages();
            String call = "(" + pages[0] + ", " + pages[1] + ")";
            dueUnchanged("once " + call, x, 1, 1, () -> x.copies(1, pages[0], pages[1]), -2);
            dueUnchanged("nine times " + call, x, 1, 1, () -> x.copies(9, pages[0], pages[1]), -2);
            due("no page at all " + call, new PrinterRows(1, 1).copies(1, pages[0], pages[1]), -2);
        }
        due("not even the first", new PrinterRows(1, 1).copies(1, 0, 0), -2);
    }

    private static void copiesUpTo40() {
        about("Promise 10: -6, changing nothing, when there would be more than 40");
        PrinterRows x = threePages();
        due("30 pages", x.copies(9, 0, 2), 30);
        x.line('+');
        x.sign('z');
        dueUnchanged("41, by one time too many", x, 1, 1, () -> x.copies(5, 0, 1), -6);
        dueUnchanged("41, by one page too many", x, 1, 1, () -> x.copies(1, 0, 9), -6);
        dueUnchanged("as many as can be asked for", x, 1, 1, () -> x.copies(9, 0, 30), -6);
        due("just 40", x.copies(1, 0, 8), MOST_PAGES);
        due("line 0", x.tally(1), 0);
        dueUnchanged("one more", x, 1, 1, () -> x.copies(1, 39, 39), -6);
        due("n is looked at first", x.copies(10, 0, 39), -2);
        due("the pages are, too", x.copies(1, 0, 40), -2);
        PrinterRows y = threePages();
        y.copies(9, 0, 2);
        due("just 40, by pages in the middle", y.copies(5, 1, 2), MOST_PAGES);
    }

    // Promise 11

    private static void back() {
        about("Promise 11: the last n pages that are begun are taken back; it stands as by end() then");
        PrinterRows x = new PrinterRows(3, 1);
        print(x, "a", ' ', 1);
        x.end();
        print(x, "b", ' ', 2);
        x.sign('c');
        due("one", x.back(1), 1);
        due("line 0", x.tally(1), 0);
        dueNoPlace(x, 1, 0, 0);
        dueAt(x, 0, 1, 0, 'a');
        due("the record is left", x.tally(7), 1);
        due("behind", x.line('+'), 2);
        dueAt(x, 1, 0, 0, 'c');
        dueAt(x, 1, 1, 0, ' ');
        x.end();
        x.channel(1, 2);
        x.skip(1);
        due("a page that is not begun is none of them", x.back(1), 1);
        due("line 0", x.tally(1), 0);
        due("all", x.back(1), 0);
        PrinterRows y = onTheLastPage();
        due("all 40", y.back(MOST_PAGES), 0);
        due("a page can come again", y.line('+'), 1);
        dueAt(y, 0, 0, 0, ' ');
        fewerThanN();
        noughtIsAsEnd();
    }

    private static void fewerThanN() {
        about("Promise 11: -2 when there are fewer, or n is below 0");
        int[] no = {LEAST, -2, -1, 4, 5, 40, GREATEST};
        PrinterRows x = threePages();
        x.sign('z');
        for (int n : no) {
            dueUnchanged("back(" + n + ")", x, 1, 1, () -> x.back(n), -2);
        }
        due("it still stands on the last page", x.line('+'), 3);
        dueAt(x, 2, 0, 0, 'z');
        due("as many as there are", x.back(3), 0);
        due("one of none", x.back(1), -2);
        due("41 of 40", onTheLastPage().back(41), -2);
        PrinterRows y = new PrinterRows(3, 1);
        print(y, "a", ' ', 1);
        dueUnchanged("two of one", y, 3, 1, () -> y.back(2), -2);
        dueUnchanged("below 0", y, 3, 1, () -> y.back(-1), -2);
    }

    private static void noughtIsAsEnd() {
        about("Promise 11: (0: as end())");
        PrinterRows x = new PrinterRows(3, 1);
        due("no page", x.back(0), 0);
        print(x, "a", ' ', 1);
        due("one", x.back(0), 1);
        due("line 0", x.tally(1), 0);
        dueUnchanged("again", x, 3, 1, () -> x.back(0), 1);
        print(x, "b", '+', 2);
        dueAt(x, 0, 1, 0, 'a');
        dueAt(x, 1, 0, 0, 'b');
    }

    // Promise 12

    private static void forms() {
        formsThatAreMounted();
        formsThatAreAskedFor();
        formsBelowNought();
    }

    private static void formsThatAreMounted() {
        about("Promise 12: 1 they are mounted; kind 0 is mounted at first");
        PrinterRows x = new PrinterRows(3, 1);
        due("kind 0", x.forms(0), 1);
        print(x, "a", ' ', 1);
        dueUnchanged("the page is not over", x, 3, 1, () -> x.forms(0), 1);
        x.forms(7);
        print(x, "b", ' ', 2);
        dueUnchanged("kind 7", x, 3, 1, () -> x.forms(7), 1);
        print(x, "c", '+', 2);
        dueAt(x, 1, 1, 0, 'c');
    }

    private static void formsThatAreAskedFor() {
        about("Promise 12: 2 they are asked for, and mounted then (the page is over, as by end())");
        int[] kinds = {1, GREATEST, 0, 2};
        PrinterRows x = new PrinterRows(3, 1);
        for (int i = 0; i < kinds.length; i++) {
            print(x, "a", ' ', i + 1);
            x.sign('b');
            due("forms(" + kinds[i] + ")", x.forms(kinds[i]), 2);
            due("asked for", x.tally(6), i + 1);
            due("line 0", x.tally(1), 0);
            due("pages", x.tally(0), i + 1);
            due("the record is left", x.tally(7), 1);
            due("mounted then", x.forms(kinds[i]), 1);
        }
        PrinterRows y = new PrinterRows(3, 1);
        y.channel(1, 2);
        y.skip(1);
        due("a page that is not begun", y.forms(5), 2);
        due("stays so", y.tally(0), 0);
        due("on its line 0", y.tally(1), 0);
        PrinterRows z = onTheLastPage();
        due("on the 40th page", z.forms(5), 2);
        due("it is over", z.line('+'), -6);
        due("and behind it", z.forms(0), 2);
    }

    private static void formsBelowNought() {
        about("Promise 12: -2 when kind is below 0");
        int[] no = {LEAST, -2, -1};
        PrinterRows x = new PrinterRows(3, 1);
        print(x, "a", ' ', 1);
        for (int kind : no) {
            dueUnchanged("forms(" + kind + ")", x, 3, 1, () -> x.forms(kind), -2);
        }
        due("kind 0 is still mounted", x.forms(0), 1);
    }

    // Promise 13

    private static void tally() {
        about("Promise 13: NONE for others");
        int[] no = {LEAST, -2, -1, 8, 9, 256, GREATEST};
        for (int what : no) {
            due("tally(" + what + ")", onTheLastPage().tally(what), NONE);
        }
        signsNotBlankNotCut();
        signsCutBlanksToo();
        aRefusedCallIsNotCounted();
        whatIsTakenBackStaysCounted();
    }

    private static void signsNotBlankNotCut() {
        about("Promise 13: 3 signs printed (not blank, not cut)");
        PrinterRows x = new PrinterRows(2, 3);
        print(x, "   ", '+', 1);
        due("blanks", x.tally(3), 0);
        print(x, "a b", '+', 1);
        due("two with a blank", x.tally(3), 2);
        print(x, "cdefgh", ' ', 1);
        due("three that are not cut", x.tally(3), 5);
        print(x, "a", '+', 1);
        due("one on a darker one", x.tally(3), 6);
        x.translate('a', ' ');
        print(x, "a", '+', 1);
        due("one printed as a blank", x.tally(3), 6);
    }

    private static void signsCutBlanksToo() {
        about("Promise 13: 4 signs cut (blanks, too)");
        PrinterRows x = new PrinterRows(2, 2);
        print(x, "ab", '+', 1);
        due("none", x.tally(4), 0);
        print(x, "ab ", '+', 1);
        due("a blank", x.tally(4), 1);
        print(x, "   c", '+', 1);
        due("a blank and another", x.tally(4), 3);
    }

    private static void aRefusedCallIsNotCounted() {
        about("Promise 13: what is refused is not counted");
        PrinterRows x = onTheLastPage();
        x.end();
        signs(x, 'z', 3);
        int[] before = tallies(x);
        due("line(49)", x.line('1'), -6);
        due("skip(1)", x.skip(1), -6);
        due("forms(-1)", x.forms(-1), -2);
        due("copies(1, 0, 0)", x.copies(1, 0, 0), -6);
        due("back(41)", x.back(41), -2);
        dueTallies("after them", x, before);
    }

    private static void whatIsTakenBackStaysCounted() {
        about("Promise 13: 0 pages that are begun, 2 records printed, 3 signs printed, 4 signs cut");
        PrinterRows x = new PrinterRows(1, 1);
        print(x, "ab", '+', 1);
        x.copies(9, 0, 0);
        x.back(10);
        due("pages", x.tally(0), 0);
        due("records", x.tally(2), 1);
        due("signs printed", x.tally(3), 1);
        due("signs cut", x.tally(4), 1);
    }
}
