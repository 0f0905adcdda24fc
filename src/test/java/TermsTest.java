import java.io.IOException;

/** Each sentence of the document's terms at its boundaries, by a test of its own. */
public final class TermsTest extends Checks {
    private static Document document;
    private static String place = "";

    private static void sentence(String text, Call test) {
        document.test(place, text, test);
    }

    private static void objects() {
        place = "What it is";
        sentence("An object is used for at most 512 calls after it has been made; what later calls answer is free.",
            TermsTest::calls);
    }

    private static void calls() {
        // Three calls of setting up, 254 changes on as many days, and the 512th call looks at one of them.
        for (int day = 0; day < 254; day++) {
            Bandplan x = crowd(1);
            for (int i = 0; i < 254; i++) {
                x.putOn(0, i % 8);
                x.goOn(1);
            }
            same("day " + day, x.channelOf(0, day), day % 8);
        }
        // Two changes a day of the last one of 8, on 167 days.
        for (int day = 0; day < 167; day++) {
            Bandplan x = crowd(8);
            for (int i = 0; i < 167; i++) {
                x.putOn(7, i % 8);
                x.putOn(7, (i + 3) % 8);
                x.goOn(1);
            }
            same("the last one of day " + day, x.channelOf(7, day), (day + 3) % 8);
        }
        Bandplan y = new Bandplan();
        for (int i = 1; i <= 512; i++) {
            same("call " + i, y.goOn(99), 99 * i);
        }
        Bandplan z = crowd(1);
        for (int i = 0; i < 500; i++) {
            z.putOn(0, i % 8);
        }
        z.goOn(1);
        z.putOn(0, 6);
        z.goOn(1);
        z.putOff(0);
        same("many changes on one day", z.channelOf(0, 0), 499 % 8);
        same("one on the next day", z.channelOf(0, 1), 6);
    }

    private static void land() {
        place = "Land";
        sentence("It has 20 columns and 20 rows of cells; each cell has a ground from 0 to 99, 0 at first.",
            TermsTest::cells);
        sentence("At most 10 sites are numbered from 0, each in a cell, with a height from 0 to 99 above its ground.",
            TermsTest::sites);
        sentence("The loss between two sites is 200, and 8 times the greatest whole number whose square is not greater"
            + " than 100 times the sum of the squares of what columns and rows differ by, and 60 for each cell that"
            + " blocks.", TermsTest::losses);
        sentence("The cells between are, for k from 1 to n less 1, n being the greater one of both differences, the"
            + " column of the first site moved by k times the difference of columns divided by n, and the row"
            + " likewise, both rounded down, below 0 too; such a cell blocks if its ground is greater than the line"
            + " there: the height of the first site, with its ground, times n less k, plus that of the second one"
            + " times k, divided by n, cut.", TermsTest::cellsBetween);
        sentence("The first site is the one with the lower number.", TermsTest::firstSite);
    }

    private static void cells() {
        for (int half = 0; half < 2; half++) {
            Bandplan x = new Bandplan();
            for (int i = half * 200; i < half * 200 + 200; i++) {
                same("first of cell " + i, x.setGround(i / 20, i % 20, (i * 7 + 1) % 100), 0);
            }
            for (int i = half * 200; i < half * 200 + 200; i++) {
                same("cell " + i, x.setGround(i / 20, i % 20, 99), (i * 7 + 1) % 100);
            }
        }
        Bandplan y = new Bandplan();
        y.setGround(0, 19, 1);
        same("no row goes over into the next column", y.setGround(1, 0, 1), 0);
        same("no column into a row", y.setGround(19, 0, 1), 0);
        ends(0, 19, column -> y.setGround(column, 7, 2));
        ends(0, 19, row -> y.setGround(7, row, 2));
        ends(0, 99, ground -> y.setGround(7, 7, ground));
        beyond(BOUNDS, 0, 19, column -> y.setGround(column, 7, 2));
        beyond(BOUNDS, 0, 19, row -> y.setGround(7, row, 2));
        beyond(ARGUMENT, 0, 99, ground -> y.setGround(7, 7, ground));
        same("the last one taken", y.setGround(7, 7, 0), 99);
    }

    private static void sites() {
        Bandplan x = new Bandplan();
        for (int i = 0; i < 10; i++) {
            same("number", x.addSite(i % 2 * 19, 19 - i % 2 * 19, i % 2 * 99), i);
        }
        fails("an eleventh one", STATE, () -> x.addSite(0, 0, 0));
        fails("is not there", BOUNDS, () -> x.loss(0, 10));
        same("the last one is", x.loss(0, 9), 200 + 8 * 268);
        beyond(ARGUMENT, 0, 99, height -> new Bandplan().addSite(0, 0, height));
        // The line in the middle is half of the first site's ground and height: 99, then 98.
        Bandplan y = new Bandplan();
        y.addSite(0, 0, 99);
        y.addSite(2, 0, 0);
        y.setGround(0, 0, 99);
        y.setGround(1, 0, 99);
        same("above its ground", y.loss(0, 1), 360);
        y.setGround(0, 0, 98);
        same("above a lower ground", y.loss(0, 1), 420);
        Bandplan z = new Bandplan();
        z.setGround(0, 0, 99);
        z.setGround(1, 0, 99);
        z.addSite(0, 0, 99);
        z.addSite(2, 0, 0);
        same("above a ground set before", z.loss(0, 1), 360);
    }

    private static void losses() {
        for (int columns = 0; columns < 20; columns++) {
            for (int rows = 0; rows < 20; rows++) {
                int root = 0;
                while ((root + 1) * (root + 1) <= 100 * (columns * columns + rows * rows)) {
                    root++;
                }
                Bandplan x = new Bandplan();
                x.addSite(0, rows, 0);
                x.addSite(columns, 0, 0);
                x.addSite(19 - columns, 19 - rows, 0);
                x.addSite(19, 19, 0);
                same("differ by " + columns + " " + rows, x.loss(0, 1), 200 + 8 * root);
                same("from the other end " + columns + " " + rows, x.loss(2, 3), 200 + 8 * root);
            }
        }
        // The same cell; a square, 50 * 50; one less than squares, 51 * 51 and 99 * 99; the farthest two.
        int[][] cells = {{0, 0}, {3, 4}, {1, 5}, {7, 7}, {19, 19}};
        int[] due = {200, 600, 600, 984, 2344};
        Bandplan y = new Bandplan();
        y.addSite(0, 0, 0);
        for (int i = 0; i < cells.length; i++) {
            y.addSite(cells[i][0], cells[i][1], 0);
            same("root " + i, y.loss(0, i + 1), due[i]);
        }
        Bandplan z = new Bandplan();
        z.addSite(0, 0, 0);
        z.addSite(19, 0, 0);
        for (int column = 1; column < 19; column++) {
            same("cells that block", z.loss(0, 1), 200 + 8 * 190 + 60 * (column - 1));
            z.setGround(column, 0, 1);
        }
        same("all 18 block", z.loss(1, 0), 200 + 8 * 190 + 60 * 18);
    }

    private static void cellsBetween() {
        noneBetween();
        straightBetween();
        Bandplan x = new Bandplan();
        x.addSite(3, 1, 0);
        x.addSite(0, 0, 0);
        // The row goes from 1 by -1/3 and -2/3: down to 0, not cut to 1.
        int free = 200 + 8 * 31;
        blocksAt(x, new int[] {2, 0}, free, true);
        blocksAt(x, new int[] {1, 0}, free, true);
        blocksAt(x, new int[] {2, 1}, free, false);
        blocksAt(x, new int[] {1, 1}, free, false);
        Bandplan y = new Bandplan();
        y.addSite(1, 5, 0);
        y.addSite(0, 2, 0);
        // The column goes from 1 by -1/3 and -2/3.
        blocksAt(y, new int[] {0, 4}, free, true);
        blocksAt(y, new int[] {0, 3}, free, true);
        blocksAt(y, new int[] {1, 4}, free, false);
        blocksAt(y, new int[] {1, 3}, free, false);
        line();
    }

    /** With a difference of 0 or 1 there is no cell between. */
    private static void noneBetween() {
        for (int column = 9; column <= 11; column++) {
            for (int row = 9; row <= 11; row++) {
                Bandplan x = new Bandplan();
                for (int i = 0; i < 9; i++) {
                    x.setGround(9 + i / 3, 9 + i % 3, 99);
                }
                x.setGround(10, 10, 0);
                x.setGround(column, row, 0);
                x.addSite(10, 10, 0);
                x.addSite(column, row, 0);
                int apart = Math.abs(column - 10) + Math.abs(row - 10);
                same("beside", x.loss(0, 1), 200 + 8 * new int[] {0, 10, 14}[apart]);
            }
        }
    }

    /** In each direction from 2 on, all cells between block, and none of both ends or behind them. */
    private static void straightBetween() {
        for (int direction = 0; direction < 9; direction++) {
            int columns = direction / 3 - 1;
            int rows = direction % 3 - 1;
            for (int n = 2; n < 10 && direction != 4; n++) {
                Bandplan x = new Bandplan();
                x.addSite(10, 10, 0);
                x.addSite(10 + n * columns, 10 + n * rows, 0);
                int free = x.loss(0, 1);
                for (int k = -1; k <= n + 1; k++) {
                    int column = 10 + k * columns;
                    int row = 10 + k * rows;
                    if (column < 20 && row < 20 && column >= 0 && row >= 0) {
                        blocksAt(x, new int[] {column, row}, free, k > 0 && k < n);
                    }
                }
            }
        }
    }

    private static void blocksAt(Bandplan x, int[] cell, int free, boolean is) {
        x.setGround(cell[0], cell[1], 1);
        same("ground at " + cell[0] + " " + cell[1], x.loss(0, 1), is ? free + 60 : free);
        x.setGround(cell[0], cell[1], 0);
    }

    private static void line() {
        // The line from 30 to 1: 22 3/4, 15 2/4 and 8 1/4, cut; the line from 198 to 0 by halves: 99.
        int[] cut = {0, 22, 15, 8};
        for (int k = 1; k <= 3; k++) {
            Bandplan x = new Bandplan();
            x.setGround(0, 0, 20);
            x.addSite(0, 0, 10);
            x.addSite(4, 0, 1);
            x.setGround(k, 0, cut[k]);
            same("on the line", x.loss(0, 1), 520);
            x.setGround(k, 0, cut[k] + 1);
            same("above the line", x.loss(0, 1), 580);
        }
        Bandplan y = new Bandplan();
        y.addSite(0, 0, 5);
        y.addSite(0, 2, 5);
        y.setGround(0, 1, 5);
        same("as high as a level line", y.loss(0, 1), 360);
        y.setGround(0, 1, 6);
        same("higher than a level line", y.loss(0, 1), 420);
        y.setGround(0, 2, 1);
        same("half above it, cut", y.loss(0, 1), 420);
        y.setGround(0, 2, 2);
        same("the second one on higher ground", y.loss(0, 1), 360);
    }

    private static void firstSite() {
        int[][] ends = {{3, 1}, {0, 0}, {1, 5}, {0, 2}, {5, 5}, {2, 3}};
        for (int i = 0; i < ends.length; i += 2) {
            Bandplan x = new Bandplan();
            Bandplan y = new Bandplan();
            for (Bandplan z : new Bandplan[] {x, y}) {
                for (int cell = 0; cell < 36; cell++) {
                    z.setGround(cell / 6, cell % 6, cell * 29 % 37);
                }
                int[] first = ends[z == x ? i : i + 1];
                int[] second = ends[z == x ? i + 1 : i];
                z.addSite(first[0], first[1], z == x ? 3 : 1);
                z.addSite(second[0], second[1], z == x ? 1 : 3);
                same("asked the other way", z.loss(1, 0), z.loss(0, 1));
            }
            same("the same path", x.loss(0, 1), y.loss(0, 1));
        }
    }

    private static void stations() {
        place = "Stations";
        sentence("At most 8 are numbered from 0, each with a site that sends, another one that receives, a power from"
            + " 0 to 500, and it is protected or secondary.", TermsTest::eightStations);
        sentence("It is on a channel from 0 to 7, or off, as at first.", TermsTest::onOrOff);
        sentence("Its level is its power less the loss between its sites.", TermsTest::levels);
        sentence("Another station that is on harms it by its own power, less the loss from its sending site to the"
            + " receiving one of the harmed one, less 0 on the same channel, 300 on the next one, 500 on the one"
            + " behind that; on one farther away it does not; at one and the same site the loss is 0.",
            TermsTest::harms);
        sentence("All harm together begins with that of the lowest station that harms, and takes each next one by"
            + " rising numbers: the greater one of both, plus 30 less a quarter of what they differ by, cut, or plus"
            + " 0 if that is less.", TermsTest::allHarm);
        sentence("A station keeps its level if nothing harms it, or its level less all harm is at least the ratio,"
            + " 170 at first.", TermsTest::keepsLevel);
        sentence("Two stations on two channels bar each other if a protected one of them would not keep its level"
            + " with both on alone.", TermsTest::barred);
    }

    private static void eightStations() {
        Bandplan x = oneCell();
        for (int i = 0; i < 8; i++) {
            same("number", x.addStation(i % 2, 1 - i % 2, i % 2 * 500, i % 2 == 0), i);
        }
        fails("a ninth one", STATE, () -> x.addStation(0, 1, 0, true));
        fails("is not there", BOUNDS, () -> x.level(8));
        same("the last one is", x.level(7), 300);
        x.putOn(7, 0);
        same("one of 8 is on", x.onShare(), 1f / 8f);
        beyond(ARGUMENT, 0, 500, power -> oneCell().addStation(0, 1, power, true));
        fails("one site for both", ARGUMENT, () -> oneCell().addStation(1, 1, 0, true));
        no("two secondary ones have no claim", oneCell(-500, -500).bars(0, 0, 1, 0));
        yes("one protected has", oneCell(-500, 500).bars(0, 0, 1, 0));
        yes("the other one has", oneCell(500, -500).bars(0, 0, 1, 0));
    }

    private static void onOrOff() {
        Bandplan x = oneCell(400, -300);
        for (int station = 0; station < 2; station++) {
            int it = station;
            same("off at first", x.channelOf(it, 0), -1);
            same("off ahead of putting it off", x.putOff(it), -1);
            for (int channel = 0; channel < 8; channel++) {
                x.putOn(it, channel);
                same("on", x.channelOf(it, 0), channel);
            }
            same("the last channel", x.putOff(it), 7);
            beyond(ARGUMENT, 0, 7, channel -> x.putOn(it, channel));
            same("off still", x.channelOf(it, 0), -1);
        }
    }

    private static void levels() {
        Bandplan x = new Bandplan();
        x.addSite(0, 0, 0);
        x.addSite(0, 0, 0);
        x.addSite(19, 19, 0);
        int[][] all = {{0, 1, 0, -200}, {0, 1, 200, 0}, {1, 0, 500, 300}, {0, 2, 0, -2344}, {2, 1, 500, -1844}};
        for (int i = 0; i < all.length; i++) {
            x.addStation(all[i][0], all[i][1], all[i][2], true);
            same("level " + i, x.level(i), all[i][3]);
        }
        x.setGround(9, 9, 99);
        same("a block", x.level(3), -2404);
        same("none within a cell", x.level(0), -200);
    }

    private static void harms() {
        for (int channel = 0; channel < 8; channel++) {
            for (int other = 0; other < 8; other++) {
                Bandplan x = oneCell(-400, -350);
                putAll(x, channel, other);
                int apart = Math.abs(channel - other);
                if (apart > 2) {
                    fails("from " + other + " to " + channel, MISSING, () -> x.harm(0));
                } else {
                    same("from " + other + " to " + channel, x.harm(0), 150 - new int[] {0, 300, 500}[apart]);
                }
            }
        }
        Bandplan y = oneCell(-400, -350);
        y.putOn(0, 0);
        fails("one that is off", MISSING, () -> y.harm(0));
        y.putOn(1, 0);
        y.putOff(1);
        fails("one that is off again", MISSING, () -> y.harm(0));
        // Sends 3 cells away from the harmed one's receiving site, and receives far from all.
        Bandplan z = new Bandplan();
        z.addSite(0, 9, 0);
        z.addSite(0, 0, 0);
        z.addSite(3, 0, 0);
        z.addSite(19, 19, 0);
        z.addStation(0, 1, 500, false);
        z.addStation(2, 3, 210, false);
        z.addStation(1, 0, 90, false);
        putAll(z, 4, 4);
        same("by its own power and path", z.harm(0), 210 - 440);
        putAll(z, 4, 7, 6);
        same("at the same site, two behind", z.harm(0), 90 - 500);
        putAll(z, 4, 7, 4);
        same("at the same site", z.harm(0), 90);
        z.putOn(1, 2);
        z.putOn(2, 1);
        same("two behind", z.harm(0), 210 - 440 - 500);
    }

    private static void allHarm() {
        for (int apart = 0; apart <= 500; apart++) {
            int more = apart >= 120 ? 0 : 30 - apart / 4;
            Bandplan x = oneCell(-500, -500, apart - 500);
            putAll(x, 0, 0, 0);
            same("the greater one first, differ by " + apart, x.harm(0), 300 + more);
            Bandplan y = oneCell(apart - 500, -500, -500);
            putAll(y, 0, 0, 0);
            same("the greater one behind, differ by " + apart, y.harm(2), 300 + more);
        }
        int[] at = {0, 3, 4, 7, 8, 119, 120, 123, 124};
        int[] due = {30, 30, 29, 29, 28, 1, 0, 0, 0};
        for (int i = 0; i < at.length; i++) {
            Bandplan x = oneCell(-400, at[i] - 400, -1);
            putAll(x, 5, 5, 5);
            same("differ by " + at[i], x.harm(2), 200 + due[i]);
        }
        // 100 with 180 is 190, then with 200 it is 228; by falling numbers it would be 216.
        Bandplan z = oneCell(-300, -380, -400, -500, -500);
        putAll(z, 0, 0, 0, 0);
        same("by rising numbers", z.harm(3), 228);
        // 180 with 200 is 225, then with 300 it is 312.
        same("the lowest one itself", z.harm(0), 312);
        z.putOff(0);
        z.putOn(1, 3);
        same("one alone that harms", z.harm(3), 200);
        z.putOn(1, 2);
        same("the lowest one far below", z.harm(3), 200);
        // All eight: seven of 200 each: 230, 253, 270, 283, 293, 300.
        Bandplan w = oneCell(-400, -400, -400, -400, -400, -400, -400, -400);
        putAll(w, 3, 3, 3, 3, 3, 3, 3, 3);
        same("all eight", w.harm(0), 300);
    }

    private static void keepsLevel() {
        Bandplan x = oneCell(-1, -500);
        x.setRatio(500);
        x.putOn(0, 0);
        yes("nothing harms it, far below the ratio", x.keeps(0));
        x.putOn(1, 3);
        yes("one farther away", x.keeps(0));
        // Level 0 less harm of -170 and -169.
        Bandplan y = oneCell(-200, -330, -331);
        putAll(y, 3, 4);
        yes("170 is enough at first", y.keeps(0));
        y.putOff(1);
        y.putOn(2, 2);
        no("169 is not", y.keeps(0));
        int[] ratios = {0, 1, 169, 170, 171, 499, 500};
        for (int ratio : ratios) {
            // Level 200, harm of 200 less the ratio, from the same channel or the next one.
            int channel = ratio < 200 ? 0 : 1;
            int power = 400 - ratio + 300 * channel;
            Bandplan z = oneCell(-400, -power, -power - 1);
            z.setRatio(ratio);
            putAll(z, 0, channel);
            yes("just the ratio " + ratio, z.keeps(0));
            z.putOff(1);
            z.putOn(2, channel);
            no("one below " + ratio, z.keeps(0));
        }
    }

    private static void barred() {
        // Level 200; harm of 30 by a power of 230 on the same channel.
        no("just the ratio", oneCell(400, -230).bars(0, 6, 1, 6));
        yes("one below", oneCell(400, -231).bars(0, 6, 1, 6));
        yes("the other way", oneCell(400, -231).bars(1, 6, 0, 6));
        no("one without a claim", oneCell(-400, -231).bars(0, 6, 1, 6));
        // The strong one suffers nothing, the weak one does.
        yes("the weak one is protected", oneCell(-500, 200).bars(0, 2, 1, 3));
        no("the strong one is", oneCell(500, -200).bars(0, 2, 1, 3));
        no("channels 0 and 7 are not beside each other", oneCell(200, 500).bars(0, 0, 1, 7));
        no("nor 0 and 6", oneCell(200, 500).bars(0, 0, 1, 6));
        no("nothing harms, however low", oneCell(1, 1).bars(0, 0, 1, 3));
        Bandplan y = oneCell(1, 500);
        y.setRatio(500);
        yes("the one behind the next one", y.bars(0, 4, 1, 6));
        no("one farther away", y.bars(0, 4, 1, 7));
        Bandplan x = threeCells();
        x.setRatio(240);
        putAll(x, 0, 3, 0);
        fails("with the third one on, too", UNSUPPORTED, () -> x.putOn(1, 0));
        no("on alone, whatever else is on", x.bars(0, 0, 1, 0));
        no("wherever they are now", x.bars(0, 3, 2, 3));
    }

    private static void register() {
        place = "Register";
        sentence("A protected station is put on a channel if, behind that, each protected one that is on keeps its"
            + " level; for this, secondary ones that bar it, each with it alone, go off, by falling numbers, ahead of"
            + " looking.", TermsTest::protectedOn);
        sentence("A secondary one is put on if each protected one that is on keeps its level then.",
            TermsTest::secondaryOn);
        sentence("A station that was on another channel, or on this one, is off that while this is looked at, and all"
            + " is asked anew.", TermsTest::askedAnew);
        sentence("Foreign channels, none at first, need a yes for stations of which a site has a column of at least"
            + " 15: one asks for a yes for a station and a channel; unless there is an objection on this day or one"
            + " of the two days behind it, the yes counts from the third day behind on.", TermsTest::foreign);
        sentence("Stations that are on stay so when a channel becomes foreign, and the move needs no yes.",
            TermsTest::staysAbroad);
        sentence("What changes on a day holds in the register from this day on, the last change of a day alone.",
            TermsTest::lastChange);
    }

    private static void protectedOn() {
        // Each level is 200, each harm 30 and 31: at the ratio, and one beyond it.
        Bandplan x = new Bandplan();
        for (int i = 0; i < 3; i++) {
            x.addSite(3, 3, 0);
        }
        x.addStation(0, 1, 400, true);
        x.addStation(0, 1, 230, false);
        x.addStation(0, 1, 231, false);
        putAll(x, -1, 4, 4);
        same("the one beyond goes off", x.putOn(0, 4), 1);
        same("the one at the ratio stays", x.channelOf(1, 0), 4);
        same("off", x.channelOf(2, 0), -1);
        Bandplan y = crowd(2);
        y.putOn(0, 4);
        fails("a protected one would not keep its level", UNSUPPORTED, () -> y.putOn(1, 4));
        same("beside it", y.putOn(1, 5), 0);
        // The one put on keeps its level, another one that is on does not.
        Bandplan z = oneCell(200, 500);
        z.putOn(0, 3);
        fails("the other one", UNSUPPORTED, () -> z.putOn(1, 4));
        z.putOff(0);
        z.putOn(1, 4);
        fails("itself", UNSUPPORTED, () -> z.putOn(0, 3));
        Bandplan w = oneCell(400, -400, -400, -400, -400, -400, -400, -400);
        putAll(w, -1, 0, 0, 0, 0, 0, 0, 0);
        same("all seven go off", w.putOn(0, 0), 7);
        same("none is left to go off", w.putOn(0, 0), 0);
        secondaryOneAround();
        secondaryOnesTogether();
    }

    /** With a level of 90, a power of 500 is not borne on the same channel and both next ones. */
    private static void secondaryOneAround() {
        for (int channel = 0; channel < 8; channel++) {
            boolean isNear = Math.abs(channel - 4) < 2;
            Bandplan x = oneCell(290, -500);
            putAll(x, -1, channel);
            same("one on " + channel, x.putOn(0, 4), isNear ? 1 : 0);
            same("which stays or goes", x.channelOf(1, 0), isNear ? -1 : channel);
            Bandplan y = oneCell(-500, 290);
            y.putOn(0, channel);
            same("the lowest one on " + channel, y.putOn(1, 4), isNear ? 1 : 0);
            same("which stays or goes, too", y.channelOf(0, 0), isNear ? -1 : channel);
        }
    }

    /** The second and third one are borne alone and not together; the fourth one is not borne. */
    private static void secondaryOnesTogether() {
        Bandplan x = oneCell(400, -228, -228, -400);
        putAll(x, -1, 2, 2, 2);
        fails("two that are borne alone", UNSUPPORTED, () -> x.putOn(0, 2));
        for (int i = 1; i < 4; i++) {
            same("stays on", x.channelOf(i, 0), 2);
        }
        x.putOff(1);
        same("the one that is not borne", x.putOn(0, 2), 1);
        same("went off", x.channelOf(3, 0), -1);
        same("stayed", x.channelOf(2, 0), 2);
    }

    private static void secondaryOn() {
        Bandplan x = oneCell(400, -230, -231, -400);
        x.putOn(0, 2);
        same("at the ratio", x.putOn(1, 2), 0);
        x.putOff(1);
        fails("one beyond it", UNSUPPORTED, () -> x.putOn(2, 2));
        same("no protected one near", x.putOn(2, 5), 0);
        same("harms a secondary one", x.putOn(3, 5), 0);
        no("which does not keep its level", x.keeps(2));
        Bandplan y = oneCell(400, -228, -228);
        putAll(y, 2, 2);
        fails("two together", UNSUPPORTED, () -> y.putOn(2, 2));
        same("the first one stays", y.channelOf(1, 0), 2);
        same("and the protected one", y.channelOf(0, 0), 2);
        Bandplan z = oneCell(-400, 0);
        same("alone on all the air", z.putOn(0, 7), 0);
    }

    private static void askedAnew() {
        Bandplan x = crowd(2);
        putAll(x, 0, 1);
        same("on this one already", x.putOn(0, 0), 0);
        same("it does not harm itself on the next one", x.putOn(1, 2), 0);
        same("nor back", x.putOn(1, 1), 0);
        fails("refused", UNSUPPORTED, () -> x.putOn(1, 0));
        same("still where it was", x.channelOf(1, 0), 1);
        // A move has left a station below its level: it is asked anew on its own channel too.
        Bandplan y = threeCells();
        y.setRatio(240);
        putAll(y, 0, 3, 6);
        askAll(y, 2, 2, 2);
        y.sell(1, 1, 1);
        y.move(4);
        no("below its level", y.keeps(0));
        for (int i = 0; i < 3; i++) {
            int station = i;
            fails("on its own channel " + i, UNSUPPORTED, () -> y.putOn(station, 0));
            same("stays there", y.channelOf(i, 0), 0);
        }
        same("away from there", y.putOn(2, 3), 0);
        // A channel that has become foreign.
        Bandplan z = new Bandplan();
        z.addSite(15, 0, 0);
        z.addSite(15, 0, 0);
        z.addStation(0, 1, 400, true);
        z.putOn(0, 3);
        z.setForeign(3, true);
        fails("the yes too", STATE, () -> z.putOn(0, 3));
        same("it is on there still", z.channelOf(0, 0), 3);
        z.askAbroad(0, 3);
        z.goOn(3);
        same("with a yes", z.putOn(0, 3), 0);
        z.askAbroad(0, 3);
        fails("the yes is asked anew", STATE, () -> z.putOn(0, 3));
    }

    private static Bandplan atColumns(int sends, int receives, boolean isProtected) {
        Bandplan x = new Bandplan();
        x.addSite(sends, 19, 0);
        x.addSite(receives, 19, 0);
        x.addStation(0, 1, 400, isProtected);
        return x;
    }

    private static void foreign() {
        for (int channel = 0; channel < 8; channel++) {
            int it = channel;
            Bandplan x = atColumns(19, 19, true);
            same("none is foreign at first", x.putOn(0, channel), 0);
            x.setForeign(channel, true);
            fails("this one is now", STATE, () -> x.putOn(0, it));
            same("the others are not", x.putOn(0, (channel + 1) % 8), 0);
        }
        int[][] columns = {{14, 14}, {0, 0}, {15, 14}, {14, 15}, {15, 15}, {19, 0}, {0, 19}};
        for (int i = 0; i < columns.length; i++) {
            for (boolean is : new boolean[] {true, false}) {
                Bandplan x = atColumns(columns[i][0], columns[i][1], is);
                x.setForeign(5, true);
                if (i < 2) {
                    same("below column 15", x.putOn(0, 5), 0);
                } else {
                    fails("case " + i, STATE, () -> x.putOn(0, 5));
                }
            }
        }
        Bandplan rows = new Bandplan();
        rows.addSite(14, 19, 99);
        rows.addSite(0, 15, 99);
        rows.addStation(0, 1, 400, true);
        rows.setForeign(0, true);
        same("rows and heights do not matter", rows.putOn(0, 0), 0);
        foreignDays();
        foreignOthers();
    }

    private static void foreignDays() {
        for (int begin = 0; begin < 3; begin++) {
            // The day behind the asking on which there is an objection; 4 stands for none.
            for (int objection = 0; objection <= 4; objection++) {
                Bandplan x = atColumns(15, 15, true);
                x.setForeign(7, true);
                for (int day = 0; day < begin; day++) {
                    x.goOn(1);
                }
                same("counts from", x.askAbroad(0, 7), begin + 3);
                for (int day = 0; day < 6; day++) {
                    if (day == objection) {
                        same("in time", x.object(0, 7) ? 1 : 0, day < 3 ? 1 : 0);
                    }
                    boolean counts = day >= 3 && objection >= 3;
                    same("day " + day + " with " + objection, x.hasYes(0, 7) ? 1 : 0, counts ? 1 : 0);
                    if (counts) {
                        same("put on", x.putOn(0, 7), 0);
                    } else {
                        fails("not put on", STATE, () -> x.putOn(0, 7));
                    }
                    x.goOn(1);
                }
            }
        }
    }

    private static void foreignOthers() {
        Bandplan x = new Bandplan();
        x.addSite(15, 0, 0);
        x.addSite(15, 0, 0);
        x.addStation(0, 1, 400, true);
        x.addStation(0, 1, 400, true);
        x.setForeign(0, true);
        x.setForeign(7, true);
        x.askAbroad(0, 7);
        x.askAbroad(1, 0);
        x.goOn(3);
        fails("a yes for another channel", STATE, () -> x.putOn(0, 0));
        fails("a yes for another station", STATE, () -> x.putOn(1, 7));
        same("its own yes", x.putOn(0, 7), 0);
        same("the other's own", x.putOn(1, 0), 0);
        x.setForeign(7, false);
        x.putOff(0);
        x.askAbroad(0, 7);
        x.object(0, 7);
        same("foreign no more, in spite of an objection", x.putOn(0, 7), 0);
        x.askAbroad(0, 3);
        x.goOn(3);
        x.setForeign(3, true);
        same("asked for ahead of being foreign", x.putOn(0, 3), 0);
        eachYesAlone();
    }

    /** All stations and channels, an objection to each third yes, and each fourth one asked for anew. */
    private static void eachYesAlone() {
        Bandplan x = full();
        for (int i = 0; i < 64; i++) {
            x.askAbroad(i / 8, i % 8);
        }
        for (int i = 0; i < 64; i += 3) {
            x.object(i / 8, i % 8);
        }
        x.goOn(3);
        for (int i = 0; i < 64; i++) {
            same("yes " + i, x.hasYes(i / 8, i % 8) ? 1 : 0, i % 3 == 0 ? 0 : 1);
        }
        for (int i = 0; i < 64; i += 4) {
            x.askAbroad(i / 8, i % 8);
        }
        for (int i = 0; i < 64; i++) {
            same("yes " + i + " then", x.hasYes(i / 8, i % 8) ? 1 : 0, i % 3 == 0 || i % 4 == 0 ? 0 : 1);
        }
        x.goOn(3);
        for (int i = 0; i < 64; i++) {
            same("yes " + i + " at last", x.hasYes(i / 8, i % 8) ? 1 : 0, i % 3 == 0 && i % 4 != 0 ? 0 : 1);
        }
    }

    private static void staysAbroad() {
        Bandplan x = atColumns(15, 19, true);
        x.setAsked(0, 2);
        x.putOn(0, 6);
        x.sell(1, 1, 1);
        for (int channel = 0; channel < 8; channel++) {
            x.setForeign(channel, true);
        }
        same("stays on", x.channelOf(0, 0), 6);
        x.goOn(9);
        same("later too", x.channelOf(0, 9), 6);
        yes("and is sound", x.isSound());
        fails("needs a yes otherwise", STATE, () -> x.putOn(0, 0));
        same("the move needs none", x.move(1), 1);
        same("moved", x.channelOf(0, 9), 0);
    }

    private static void lastChange() {
        Bandplan x = crowd(1);
        x.putOn(0, 5);
        x.putOff(0);
        x.goOn(1);
        x.putOff(0);
        x.putOn(0, 7);
        x.goOn(1);
        x.putOn(0, 0);
        x.putOn(0, 7);
        x.goOn(1);
        x.putOff(0);
        x.putOn(0, 3);
        x.putOn(0, 4);
        x.goOn(99);
        int[] due = {-1, 7, 7, 4, 4};
        for (int day = 0; day < due.length; day++) {
            same("day " + day, x.channelOf(0, day), due[day]);
        }
        same("no change up to the day before", x.channelOf(0, 101), 4);
        same("nor today", x.channelOf(0, 102), 4);
        x.putOff(0);
        same("today as it is now", x.channelOf(0, 102), -1);
        same("not the day before", x.channelOf(0, 101), 4);
        // Who goes off by another one's coming, by a selling or by a move does so on that day.
        Bandplan y = oneCell(400, 400, -400);
        putAll(y, -1, 7, 3);
        y.goOn(1);
        y.putOn(0, 3);
        y.goOn(1);
        askAll(y, 9, 0);
        y.sell(5, 1, 1);
        y.goOn(1);
        y.move(1);
        y.goOn(1);
        int[][] all = {{-1, 3, 3, 0, 0}, {7, 7, -1, -1, -1}, {3, -1, -1, -1, -1}};
        for (int station = 0; station < 3; station++) {
            for (int day = 0; day < 5; day++) {
                same("station " + station + " day " + day, y.channelOf(station, day), all[station][day]);
            }
        }
    }

    public static void main(String[] args) throws IOException {
        document = new Document();
        objects();
        land();
        stations();
        register();
        document.needTests("What it is \\| An object .*");
        // The units in which levels are told can't be seen in an answer.
        document.needTests("(Land|Stations|Register) \\| (?!All levels and losses)(.{12,})");
        end("the land, its stations and its register hold at their boundaries");
    }
}
