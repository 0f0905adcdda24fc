/** The promises one by one: ordinary inputs, the edges that the document names, and wrong inputs. */
public final class PromiseTest extends Checks {
    private static void promise1() {
        Bandplan x = new Bandplan();
        same("1 rounds", x.rounds(), 0);
        same("1 dark", x.dark(), 0);
        yes("1 sound", x.isSound());
        yes("1 packs nothing", x.canPack(1));
        same("1 ratio", x.setRatio(170), 170);
        same("1 ground", x.setGround(19, 19, 0), 0);
        fails("1 no site", BOUNDS, () -> x.loss(0, 0));
        fails("1 no station", BOUNDS, () -> x.level(0));
        fails("1 no bidder", BOUNDS, () -> x.bought(0));
        for (int i = 0; i < 8; i++) {
            no("1 foreign " + i, x.setForeign(i, false));
        }
        same("1 day", x.goOn(1), 1);
        Bandplan y = new Bandplan();
        same("1 objects share nothing", y.goOn(5), 5);
    }

    private static void promise2() {
        Bandplan x = new Bandplan();
        same("2 first", x.setGround(0, 19, 99), 0);
        same("2 again", x.setGround(0, 19, 7), 99);
        same("2 other cell", x.setGround(19, 0, 0), 0);
        same("2 third", x.setGround(0, 19, 0), 7);
        for (int out : new int[] {-1, 20, Integer.MIN_VALUE, Integer.MAX_VALUE}) {
            fails("2 column " + out, BOUNDS, () -> x.setGround(out, 0, 0));
            fails("2 row " + out, BOUNDS, () -> x.setGround(0, out, 0));
            fails("2 cell first", BOUNDS, () -> x.setGround(0, out, 100));
        }
        fails("2 ground 100", ARGUMENT, () -> x.setGround(0, 0, 100));
        fails("2 ground -1", ARGUMENT, () -> x.setGround(0, 0, -1));
        Bandplan y = oneCell(-100);
        same("2 off", y.setGround(1, 1, 5), 0);
        y.putOn(0, 0);
        fails("2 on", STATE, () -> y.setGround(1, 1, 6));
        fails("2 range before on", ARGUMENT, () -> y.setGround(1, 1, 100));
        fails("2 cell before on", BOUNDS, () -> y.setGround(1, 20, 1));
        y.putOff(0);
        same("2 unchanged", y.setGround(1, 1, 6), 5);
    }

    private static void promise3() {
        Bandplan x = new Bandplan();
        for (int out : new int[] {-1, 20}) {
            fails("3 column " + out, BOUNDS, () -> x.addSite(out, 0, 0));
            fails("3 row " + out, BOUNDS, () -> x.addSite(0, out, 100));
        }
        fails("3 height 100", ARGUMENT, () -> x.addSite(0, 0, 100));
        fails("3 height -1", ARGUMENT, () -> x.addSite(0, 0, -1));
        for (int i = 0; i < 10; i++) {
            same("3 number", x.addSite(i % 2 * 19, 19, i % 2 * 99), i);
        }
        fails("3 full", STATE, () -> x.addSite(0, 0, 0));
        fails("3 range before full", ARGUMENT, () -> x.addSite(0, 0, 100));
        fails("3 cell before full", BOUNDS, () -> x.addSite(20, 0, 0));
        fails("3 still 10", BOUNDS, () -> x.loss(0, 10));
    }

    private static void promise4() {
        Bandplan x = new Bandplan();
        int[][] cells = {{0, 0}, {0, 0}, {1, 0}, {1, 1}, {19, 19}, {0, 19}, {5, 8}};
        for (int[] cell : cells) {
            x.addSite(cell[0], cell[1], 50);
        }
        int[] due = {0, 200, 280, 312, 2344, 1720, 952};
        for (int i = 0; i < due.length; i++) {
            same("4 loss to " + i, x.loss(0, i), due[i]);
            same("4 loss from " + i, x.loss(i, 0), due[i]);
            same("4 same site " + i, x.loss(i, i), 0);
        }
        fails("4 first", BOUNDS, () -> x.loss(-1, 0));
        fails("4 second", BOUNDS, () -> x.loss(0, 7));
        fails("4 same wrong one", BOUNDS, () -> x.loss(7, 7));
        promise4Blocks();
    }

    private static void promise4Blocks() {
        // From (5, 5) to (2, 3): (4, 4) by 5 - 1 and 5 - 2/3, (3, 3) by 5 - 2 and 5 - 4/3, rounded down.
        int[][] between = {{4, 4}, {3, 3}};
        for (boolean isTurned : new boolean[] {false, true}) {
            Bandplan x = new Bandplan();
            x.addSite(isTurned ? 2 : 5, isTurned ? 3 : 5, 0);
            x.addSite(isTurned ? 5 : 2, isTurned ? 5 : 3, 0);
            int free = 200 + 8 * 36;
            for (int column = 2; column <= 5; column++) {
                for (int row = 3; row <= 5; row++) {
                    int isBetween = 0;
                    for (int[] cell : between) {
                        isBetween += cell[0] == column && cell[1] == row ? 1 : 0;
                    }
                    x.setGround(column, row, 1);
                    boolean isEnd = column == 5 && row == 5 || column == 2 && row == 3;
                    same("4 block at " + column + " " + row, x.loss(0, 1),
                        isEnd ? free : free + 60 * isBetween);
                    x.setGround(column, row, 0);
                }
            }
            x.setGround(4, 4, 1);
            x.setGround(3, 3, 1);
            same("4 both block", x.loss(1, 0), free + 120);
        }
        Bandplan y = new Bandplan();
        y.setGround(0, 0, 20);
        y.addSite(0, 0, 10);
        y.addSite(4, 0, 1);
        // The line falls from 30 to 1: 22 3/4, 15 2/4, 8 1/4.
        int[] line = {0, 22, 15, 8};
        for (int k = 1; k <= 3; k++) {
            y.setGround(k, 0, line[k]);
            same("4 line reached " + k, y.loss(0, 1), 520);
            y.setGround(k, 0, line[k] + 1);
            same("4 line broken " + k, y.loss(0, 1), 580);
            y.setGround(k, 0, 0);
        }
        y.setGround(2, 0, 16);
        same("4 blocked", y.loss(0, 1), 580);
        y.setGround(4, 0, 2);
        same("4 site on higher ground", y.loss(0, 1), 520);
    }

    private static void promise5() {
        Bandplan x = oneCell();
        fails("5 sends", BOUNDS, () -> x.addStation(2, 0, 0, true));
        fails("5 receives", BOUNDS, () -> x.addStation(0, -1, 501, true));
        fails("5 same wrong one", BOUNDS, () -> x.addStation(2, 2, 0, true));
        fails("5 same", ARGUMENT, () -> x.addStation(1, 1, 0, true));
        fails("5 power 501", ARGUMENT, () -> x.addStation(0, 1, 501, true));
        fails("5 power -1", ARGUMENT, () -> x.addStation(0, 1, -1, true));
        for (int i = 0; i < 8; i++) {
            same("5 number", x.addStation(i % 2, 1 - i % 2, i % 2 * 500, i % 3 == 0), i);
            same("5 off", x.channelOf(i, 0), -1);
        }
        fails("5 full", STATE, () -> x.addStation(0, 1, 0, true));
        fails("5 power before full", ARGUMENT, () -> x.addStation(0, 1, 501, true));
        fails("5 same before full", ARGUMENT, () -> x.addStation(0, 0, 1, true));
        fails("5 sites before full", BOUNDS, () -> x.addStation(0, 2, 1, true));
    }

    private static void promise6() {
        Bandplan x = oneCell(400, 400);
        same("6 first", x.setRatio(0), 170);
        no("6 harm of 0 is no hindrance", x.bars(0, 0, 1, 0));
        same("6 again", x.setRatio(500), 0);
        yes("6 next", x.bars(0, 0, 1, 1));
        no("6 just so", x.bars(0, 0, 1, 2));
        fails("6 range", ARGUMENT, () -> x.setRatio(501));
        fails("6 below", ARGUMENT, () -> x.setRatio(-1));
        x.putOn(0, 0);
        fails("6 on", STATE, () -> x.setRatio(1));
        fails("6 range before on", ARGUMENT, () -> x.setRatio(501));
        x.putOff(0);
        same("6 unchanged", x.setRatio(300), 500);
        no("6 exactly the ratio", x.bars(0, 0, 1, 1));
        x.setRatio(301);
        yes("6 one below the ratio", x.bars(0, 0, 1, 1));
    }

    private static void promise7() {
        Bandplan x = oneCell(0, 500);
        x.addSite(13, 3, 0);
        x.addStation(1, 2, 10, false);
        same("7 no power", x.level(0), -200);
        same("7 most power", x.level(1), 300);
        same("7 far", x.level(2), 10 - 1000);
        x.setGround(8, 3, 1);
        same("7 blocked", x.level(2), 10 - 1060);
        fails("7 none", BOUNDS, () -> x.level(3));
        fails("7 below", BOUNDS, () -> x.level(-1));
    }

    private static void promise8() {
        Bandplan x = oneCell(-400, -300, -250, -100);
        fails("8 none", BOUNDS, () -> x.harm(4));
        fails("8 off", UNSUPPORTED, () -> x.harm(0));
        x.putOn(0, 3);
        fails("8 nothing", MISSING, () -> x.harm(0));
        int[] due = {0, -400, -200, 100, -200, -400};
        for (int channel = 1; channel <= 5; channel++) {
            x.putOn(1, channel);
            same("8 from " + channel, x.harm(0), due[channel]);
        }
        for (int channel : new int[] {0, 6, 7}) {
            x.putOn(1, channel);
            fails("8 farther " + channel, MISSING, () -> x.harm(0));
        }
        putAll(x, 3, 3, 3, 3);
        // 100 and 50: 100 + 30 - 12; then -100 lies 218 below.
        same("8 three", x.harm(0), 118);
        // 200 and 50: nothing more; then -100.
        same("8 on another", x.harm(1), 200);
        // 200 and 100: 200 + 30 - 25 = 205; then 50 lies 155 below.
        same("8 on the last", x.harm(3), 205);
        promise8Together();
    }

    private static void promise8Together() {
        int[] lower = {0, 1, 3, 4, 7, 8, 116, 119, 120, 124, 200};
        int[] more = {30, 30, 30, 29, 29, 28, 1, 1, 0, 0, 0};
        for (int i = 0; i < lower.length; i++) {
            Bandplan x = oneCell(-500, -400, lower[i] - 400);
            putAll(x, 0, 0, lower[i] == 400 ? -1 : 0);
            same("8 differ by " + lower[i], x.harm(0), 200 + more[i]);
            Bandplan y = oneCell(lower[i] - 400, -500, -400);
            putAll(y, 0, 0, 0);
            same("8 greater one later " + lower[i], y.harm(1), 200 + more[i]);
        }
        // Rising: 100 with 180 is 190, then 200 lies 10 above: 228. Falling would make 216.
        Bandplan z = oneCell(-300, -380, -400, -500);
        putAll(z, 0, 0, 0, 0);
        same("8 by rising numbers", z.harm(3), 228);
        // At one and the same site the loss is 0.
        Bandplan w = oneCell(-400);
        w.addStation(1, 0, 50, false);
        putAll(w, 0, 0);
        same("8 same site", w.harm(0), 50);
    }

    private static void promise9() {
        Bandplan x = oneCell(-100, -430, -400);
        fails("9 none", BOUNDS, () -> x.keeps(3));
        fails("9 off", UNSUPPORTED, () -> x.keeps(0));
        x.putOn(0, 0);
        yes("9 nothing harms", x.keeps(0));
        x.putOn(1, 3);
        yes("9 too far to harm", x.keeps(0));
        x.putOn(1, 2);
        // -100 less (230 - 500).
        yes("9 exactly 170", x.keeps(0));
        x.putOn(2, 1);
        no("9 two harm", x.keeps(0));
        Bandplan y = oneCell(-100, -431);
        putAll(y, 0, 2);
        no("9 169", y.keeps(0));
    }

    private static void promise10() {
        Bandplan x = oneCell(400, -300, -400, 200);
        fails("10 first", BOUNDS, () -> x.bars(4, 0, 0, 0));
        fails("10 second", BOUNDS, () -> x.bars(0, 9, -1, 0));
        fails("10 same", ARGUMENT, () -> x.bars(0, 0, 0, 1));
        fails("10 channel 8", ARGUMENT, () -> x.bars(0, 8, 1, 0));
        fails("10 channel -1", ARGUMENT, () -> x.bars(0, 0, 1, -1));
        fails("10 same wrong one", BOUNDS, () -> x.bars(4, 0, 4, 0));
        yes("10 same channel", x.bars(0, 5, 1, 5));
        yes("10 turned", x.bars(1, 5, 0, 5));
        no("10 next", x.bars(0, 5, 1, 4));
        no("10 secondary ones", x.bars(1, 0, 2, 0));
        // The fourth one has the level 0, the third one harms it by 200, -100, -300.
        yes("10 next one bars", x.bars(3, 1, 2, 2));
        yes("10 next one below bars", x.bars(2, 0, 3, 1));
        no("10 the one behind", x.bars(3, 0, 2, 2));
        yes("10 the other one is harmed", x.bars(0, 1, 3, 0));
        no("10 far", x.bars(0, 0, 3, 7));
        x.setRatio(500);
        yes("10 two behind", x.bars(3, 0, 2, 2));
        no("10 three behind", x.bars(3, 0, 2, 3));
        x.putOn(0, 0);
        no("10 others do not matter", x.bars(3, 0, 2, 3));
    }

    private static void promise11() {
        Bandplan x = oneCell(400, 400, -300, -300, -400);
        fails("11 none", BOUNDS, () -> x.putOn(5, 8));
        fails("11 channel 8", ARGUMENT, () -> x.putOn(0, 8));
        fails("11 channel -1", ARGUMENT, () -> x.putOn(0, -1));
        same("11 secondary", x.putOn(2, 0), 0);
        same("11 another", x.putOn(3, 0), 0);
        same("11 a third beside", x.putOn(4, 3), 0);
        same("11 they go off", x.putOn(0, 0), 2);
        same("11 off now", x.channelOf(2, 0), -1);
        same("11 off too", x.channelOf(3, 0), -1);
        same("11 this one stays", x.channelOf(4, 0), 3);
        fails("11 secondary has no claim", UNSUPPORTED, () -> x.putOn(2, 0));
        same("11 beside", x.putOn(2, 1), 0);
        fails("11 protected one barred", UNSUPPORTED, () -> x.putOn(1, 0));
        same("11 not on", x.channelOf(1, 0), -1);
        same("11 moved", x.putOn(2, 7), 0);
        same("11 on the same again", x.putOn(0, 0), 0);
        same("11 away and the secondary off", x.putOn(0, 7), 1);
        fails("11 refused", UNSUPPORTED, () -> x.putOn(4, 7));
        same("11 stays where it was", x.channelOf(4, 0), 3);
        promise11Together();
        promise11Border();
    }

    private static void promise11Together() {
        // Each of both lets the protected one its level of 240 alone, both together do not.
        Bandplan x = threeCells();
        x.setRatio(240);
        putAll(x, 0, 0);
        fails("11 third", UNSUPPORTED, () -> x.putOn(2, 0));
        same("11 unchanged", x.channelOf(2, 0), -1);
        Bandplan y = new Bandplan();
        int[][] cells = {{0, 0}, {3, 0}, {0, 3}, {0, 0}};
        for (int[] cell : cells) {
            y.addSite(cell[0], cell[1], 0);
            y.addSite(cell[0], cell[1], 0);
        }
        y.addStation(0, 1, 500, true);
        y.addStation(2, 3, 500, false);
        y.addStation(4, 5, 500, false);
        y.addStation(6, 7, 500, false);
        y.setRatio(240);
        putAll(y, -1, 0, 0, 0);
        // The fourth one bars it alone and would go off, yet the other two hinder it together.
        fails("11 secondary ones together", UNSUPPORTED, () -> y.putOn(0, 0));
        same("11 none went off", y.channelOf(3, 0), 0);
        same("11 not by the other", y.channelOf(1, 0), 0);
        y.putOff(1);
        same("11 one goes off", y.putOn(0, 0), 1);
        same("11 the one that bars", y.channelOf(3, 0), -1);
        same("11 the one that does not", y.channelOf(2, 0), 0);
        fails("11 together again", UNSUPPORTED, () -> y.putOn(1, 0));
    }

    private static void promise11Border() {
        Bandplan x = new Bandplan();
        int[] columns = {14, 14, 15, 15};
        for (int column : columns) {
            x.addSite(column, 0, 0);
        }
        x.addStation(0, 1, 400, true);
        x.addStation(0, 2, 400, true);
        x.addStation(3, 1, 400, false);
        x.putOn(1, 4);
        x.setForeign(4, true);
        same("11 stays on", x.channelOf(1, 0), 4);
        fails("11 receives there", STATE, () -> x.putOn(1, 4));
        fails("11 sends there", STATE, () -> x.putOn(2, 4));
        fails("11 yes before level", STATE, () -> x.putOn(2, 4));
        x.putOff(1);
        same("11 not near the border", x.putOn(0, 4), 0);
        fails("11 channel before yes", ARGUMENT, () -> x.putOn(1, 8));
        x.askAbroad(1, 4);
        x.askAbroad(2, 3);
        x.goOn(2);
        fails("11 not yet", STATE, () -> x.putOn(1, 4));
        x.goOn(1);
        fails("11 another channel", STATE, () -> x.putOn(2, 4));
        fails("11 level behind yes", UNSUPPORTED, () -> x.putOn(1, 4));
        x.putOff(0);
        same("11 with a yes", x.putOn(1, 4), 0);
        same("11 with it again", x.putOn(1, 4), 0);
        x.setForeign(4, false);
        fails("11 foreign no more", UNSUPPORTED, () -> x.putOn(2, 4));
    }

    private static void promise12() {
        Bandplan x = oneCell(400, 400);
        fails("12 none", BOUNDS, () -> x.putOff(2));
        fails("12 below", BOUNDS, () -> x.putOff(-1));
        same("12 off already", x.putOff(0), -1);
        putAll(x, 0, 7);
        same("12 channel", x.putOff(1), 7);
        same("12 again", x.putOff(1), -1);
        same("12 the other one", x.channelOf(0, 0), 0);
        same("12 lowest channel", x.putOff(0), 0);
    }

    private static void promise13() {
        Bandplan x = oneCell(400);
        fails("13 none", BOUNDS, () -> x.channelOf(1, 5));
        fails("13 tomorrow", ARGUMENT, () -> x.channelOf(0, 1));
        fails("13 before", ARGUMENT, () -> x.channelOf(0, -1));
        x.goOn(2);
        x.putOn(0, 3);
        x.putOn(0, 5);
        same("13 now", x.channelOf(0, 2), 5);
        x.goOn(3);
        x.putOn(0, 1);
        x.putOff(0);
        x.goOn(99);
        x.putOn(0, 2);
        int[] days = {0, 1, 2, 3, 4, 5, 6, 103, 104};
        int[] due = {-1, -1, 5, 5, 5, -1, -1, -1, 2};
        for (int i = 0; i < days.length; i++) {
            same("13 day " + days[i], x.channelOf(0, days[i]), due[i]);
        }
        fails("13 behind", ARGUMENT, () -> x.channelOf(0, 105));
        x.addStation(0, 1, 100, true);
        same("13 new one before", x.channelOf(1, 0), -1);
        promise13Long();
    }

    private static void promise13Long() {
        Bandplan x = oneCell(400);
        for (int day = 0; day < 250; day++) {
            x.putOn(0, day % 8);
            x.goOn(1);
        }
        for (int day = 0; day < 250; day++) {
            same("13 many days", x.channelOf(0, day), day % 8);
        }
        Bandplan y = oneCell(-1, -1, -1, -1, -1, -1, -1, -1);
        for (int day = 0; day < 55; day++) {
            for (int i = 0; i < 8; i++) {
                y.putOn(i, (day + i) % 8);
            }
            y.goOn(1);
        }
        for (int i = 0; i < 8; i++) {
            for (int day = 0; day < 55; day++) {
                same("13 many stations", y.channelOf(i, day), (day + i) % 8);
            }
        }
        yes("34 many days", y.isSound());
        Bandplan z = oneCell(400);
        for (int i = 0; i < 400; i++) {
            z.putOn(0, i % 8);
        }
        z.goOn(1);
        z.putOn(0, 3);
        z.goOn(1);
        z.putOff(0);
        same("13 many changes a day", z.channelOf(0, 0), 7);
        same("13 the day behind", z.channelOf(0, 1), 3);
    }

    private static void promise14() {
        Bandplan x = oneCell(400);
        no("14 first", x.setForeign(7, true));
        yes("14 is", x.setForeign(7, true));
        yes("14 was", x.setForeign(7, false));
        no("14 is no more", x.setForeign(7, false));
        no("14 another", x.setForeign(0, true));
        fails("14 channel 8", ARGUMENT, () -> x.setForeign(8, true));
        fails("14 channel -1", ARGUMENT, () -> x.setForeign(-1, true));
    }

    private static void promise15to17() {
        Bandplan x = oneCell(400, -300);
        fails("15 none", BOUNDS, () -> x.askAbroad(2, 8));
        fails("15 channel", ARGUMENT, () -> x.askAbroad(0, 8));
        fails("16 none", BOUNDS, () -> x.object(-1, 0));
        fails("16 channel", ARGUMENT, () -> x.object(0, -1));
        fails("16 not asked", MISSING, () -> x.object(0, 0));
        fails("17 none", BOUNDS, () -> x.hasYes(2, 0));
        fails("17 channel", ARGUMENT, () -> x.hasYes(0, 8));
        no("17 not asked", x.hasYes(0, 0));
        same("15 day", x.askAbroad(0, 0), 3);
        same("15 secondary", x.askAbroad(1, 7), 3);
        fails("16 other channel", MISSING, () -> x.object(0, 7));
        fails("16 other station", MISSING, () -> x.object(1, 0));
        x.goOn(2);
        no("17 second day", x.hasYes(0, 0));
        same("15 later", x.askAbroad(0, 1), 5);
        x.goOn(1);
        yes("17 third day", x.hasYes(0, 0));
        yes("17 secondary", x.hasYes(1, 7));
        no("17 other channel", x.hasYes(0, 7));
        no("16 too late", x.object(0, 0));
        yes("17 counts on", x.hasYes(0, 0));
        x.goOn(99);
        yes("17 counts long", x.hasYes(0, 0));
        same("15 anew", x.askAbroad(0, 0), 105);
        no("17 in place of the first", x.hasYes(0, 0));
        yes("16 this day", x.object(0, 0));
        yes("16 twice", x.object(0, 0));
        x.goOn(2);
        yes("16 third time", x.object(0, 0));
        x.goOn(1);
        no("17 not behind an objection", x.hasYes(0, 0));
        no("16 late behind an objection", x.object(0, 0));
        no("17 late objection changes nothing", x.hasYes(0, 0));
        same("15 anew behind an objection", x.askAbroad(0, 0), 108);
        x.goOn(3);
        yes("17 anew", x.hasYes(0, 0));
    }

    private static void promise18() {
        Bandplan x = new Bandplan();
        same("18 one", x.goOn(1), 1);
        same("18 most", x.goOn(99), 100);
        fails("18 none", ARGUMENT, () -> x.goOn(0));
        fails("18 back", ARGUMENT, () -> x.goOn(-1));
        fails("18 too many", ARGUMENT, () -> x.goOn(100));
        same("18 unchanged", x.goOn(1), 101);
    }

    private static void promise19and20() {
        Bandplan x = oneCell(400, -400, 400, 400);
        fails("19 none", ARGUMENT, () -> x.canPack(0));
        fails("19 nine", ARGUMENT, () -> x.canPack(9));
        no("19 two", x.canPack(2));
        yes("19 three", x.canPack(3));
        yes("19 eight", x.canPack(8));
        fails("20 none", ARGUMENT, () -> x.packed(0, 9));
        fails("20 nine", ARGUMENT, () -> x.packed(9, 0));
        fails("20 station", BOUNDS, () -> x.packed(8, 4));
        fails("20 secondary", UNSUPPORTED, () -> x.packed(1, 1));
        fails("20 no packing", MISSING, () -> x.packed(2, 0));
        x.putOn(0, 7);
        x.setForeign(0, true);
        int[] due = {0, -1, 1, 2};
        for (int i : new int[] {0, 2, 3}) {
            same("20 packed " + i, x.packed(3, i), due[i]);
        }
        x.putOff(0);
        x.setRatio(400);
        no("19 farther apart", x.canPack(4));
        yes("19 just so", x.canPack(5));
        same("20 second", x.packed(5, 2), 2);
        same("20 third", x.packed(5, 3), 4);
        // The second one must leave more room than the lowest channel beside the first one.
        Bandplan y = oneCell(400, 500, 100);
        y.setRatio(200);
        same("20 first", y.packed(8, 0), 0);
        same("20 next", y.packed(8, 1), 1);
        same("20 weak one", y.packed(8, 2), 4);
        Bandplan z = oneCell(200, 500, 500);
        z.setRatio(201);
        no("19 weak one first", z.canPack(4));
        same("20 weak one stays lowest", z.packed(5, 0), 0);
        same("20 strong one", z.packed(5, 1), 3);
        same("20 strong one behind", z.packed(5, 2), 4);
        // Stations 0 and 1 share a channel, until the third one, barred by both, needs another.
        Bandplan w = threeCells();
        same("20 shared", w.packed(1, 2), 0);
        w.setRatio(300);
        same("20 apart", w.packed(2, 1), 1);
        same("20 shared by two", w.packed(2, 2), 1);
        fails("20 not in one", MISSING, () -> w.packed(1, 2));
    }

    private static void promise21() {
        Bandplan x = oneCell(400, -400);
        fails("21 none", BOUNDS, () -> x.setAsked(2, 10000));
        fails("21 too much", ARGUMENT, () -> x.setAsked(0, 10000));
        fails("21 below", ARGUMENT, () -> x.setAsked(0, -1));
        same("21 first", x.setAsked(0, 9999), 0);
        same("21 again", x.setAsked(0, 0), 9999);
        same("21 secondary", x.setAsked(1, 5), 0);
    }

    private static void promise22to24() {
        Bandplan x = oneCell(400, 400, 400, -300);
        fails("22 price 0", ARGUMENT, () -> x.sell(0, 1, 1));
        fails("22 price 10000", ARGUMENT, () -> x.sell(10000, 1, 1));
        fails("22 step 0", ARGUMENT, () -> x.sell(1, 0, 1));
        fails("22 step 1000", ARGUMENT, () -> x.sell(1, 1000, 1));
        fails("22 channels 0", ARGUMENT, () -> x.sell(1, 1, 0));
        fails("22 channels 9", ARGUMENT, () -> x.sell(1, 1, 9));
        fails("22 none on", UNSUPPORTED, () -> x.sell(1, 1, 1));
        x.putOn(3, 7);
        fails("22 only a secondary one on", UNSUPPORTED, () -> x.sell(1, 1, 1));
        putAll(x, 0, 2, 4);
        askAll(x, 101, 101, 0, 9999);
        fails("22 two stay at once", UNSUPPORTED, () -> x.sell(100, 10, 1));
        fails("23 not bought", MISSING, () -> x.priceOf(0));
        same("24 none", x.rounds(), 0);
        askAll(x, 101, 100, 0);
        // The first one stays at once; the others have no room beside it.
        same("22 bought", x.sell(100, 10, 1), 2);
        same("23 frozen", x.priceOf(1), 100);
        same("23 frozen too", x.priceOf(2), 100);
        fails("23 stayed", MISSING, () -> x.priceOf(0));
        fails("23 secondary", MISSING, () -> x.priceOf(3));
        fails("23 none", BOUNDS, () -> x.priceOf(4));
        same("24 one", x.rounds(), 1);
        same("22 goes off", x.channelOf(1, 0), -1);
        same("22 stays", x.channelOf(0, 0), 0);
        same("22 secondary stays", x.channelOf(3, 0), 7);
        fails("22 throws", UNSUPPORTED, () -> {
            x.putOff(0);
            x.sell(50, 1, 1);
        });
        same("23 unchanged", x.priceOf(1), 100);
        same("24 unchanged", x.rounds(), 1);
        x.putOn(0, 0);
        x.setAsked(0, 9);
        same("22 all to the end", x.sell(9999, 999, 1), 1);
        same("24 ten", x.rounds(), 10);
        same("23 last price", x.priceOf(0), 9);
        fails("23 last selling alone", MISSING, () -> x.priceOf(1));
        promise22Prices();
    }

    private static void promise22Prices() {
        Bandplan x = oneCell(400, 400, 400);
        int[][] asked = {{40, 30, 10}, {20, 20, 20}, {0, 0, 0}, {30, 29, 0}, {50, 50, 0}};
        // Price 50, step 10, two channels: bought (or -1), then the rounds.
        // 40 stays when the next price is 30, 30 when it is 20: no room for the third one then.
        // 20 each: two stay ahead of the next price 10, in the round that the third one is bought in.
        int[][] due = {{-1, -1, 30, 3}, {-1, -1, 20, 4}, {0, 0, 0, 5}, {-1, -1, 30, 3}, {-1, -1, 50, 1}};
        for (int i = 0; i < asked.length; i++) {
            putAll(x, 0, 3, 6);
            askAll(x, asked[i]);
            x.sell(50, 10, 2);
            for (int s = 0; s < 3; s++) {
                int station = s;
                if (due[i][s] < 0) {
                    fails("23 case " + i + " station " + s, MISSING, () -> x.priceOf(station));
                } else {
                    same("23 case " + i + " station " + s, x.priceOf(s), due[i][s]);
                }
            }
            same("24 case " + i, x.rounds(), due[i][3]);
        }
        putAll(x, 0, 3, 6);
        askAll(x, 0, 0, 0);
        same("22 no round", x.sell(9, 10, 1), 3);
        same("24 no round", x.rounds(), 0);
        same("23 first price", x.priceOf(2), 9);
        putAll(x, 0, 3, 6);
        same("22 down to 0", x.sell(10, 10, 1), 3);
        same("24 one to 0", x.rounds(), 1);
        same("23 price 0", x.priceOf(0), 0);
        putAll(x, 0);
        askAll(x, 1);
        same("22 asks 1", x.sell(10, 10, 1), 0);
        same("24 stays ahead of 0", x.rounds(), 1);
        x.putOn(0, 0);
        askAll(x, 0);
        same("22 steps of 1", x.sell(9999, 1, 1), 1);
        same("24 steps of 1", x.rounds(), 9999);
    }

    private static void promise25to28() {
        Bandplan x = new Bandplan();
        fails("25 first", ARGUMENT, () -> x.addBidder(10000, 0, 0));
        fails("25 below", ARGUMENT, () -> x.addBidder(0, 0, -1));
        fails("25 second", ARGUMENT, () -> x.addBidder(5, 6, 1));
        fails("25 third", ARGUMENT, () -> x.addBidder(5, 4, 5));
        fails("26 below", ARGUMENT, () -> x.buy(-1));
        fails("26 nine", ARGUMENT, () -> x.buy(9));
        same("26 no bidder", x.buy(8), 0);
        same("25 zero", x.addBidder(0, 0, 0), 0);
        same("25 equal", x.addBidder(9999, 9999, 9999), 1);
        same("27 before", x.bought(1), 0);
        same("28 before", x.pays(1), 0);
        same("26 worths of 0", x.buy(8), 3);
        same("27 none", x.bought(0), 0);
        same("27 all", x.bought(1), 3);
        same("28 alone", x.pays(1), 0);
        same("25 third one", x.addBidder(9999, 100, 0), 2);
        same("27 later", x.bought(2), 0);
        same("28 unchanged", x.pays(1), 0);
        same("26 three", x.buy(3), 3);
        same("27 lowest bidder", x.bought(1), 3);
        same("27 too late", x.bought(2), 0);
        same("28 of the others", x.pays(1), 10099);
        same("28 nothing", x.pays(2), 0);
        same("25 fourth", x.addBidder(50, 40, 30), 3);
        fails("25 full", STATE, () -> x.addBidder(1, 1, 1));
        fails("25 range before full", ARGUMENT, () -> x.addBidder(1, 2, 1));
        same("26 five", x.buy(5), 5);
        same("27 two", x.bought(2), 2);
        same("27 no room", x.bought(3), 0);
        same("28 against two", x.pays(1), 50 + 40 + 30);
        same("28 against one", x.pays(2), 50 + 40);
        same("26 all eight", x.buy(8), 8);
        same("27 three", x.bought(3), 3);
        same("28 enough for all", x.pays(1) + x.pays(2) + x.pays(3), 0);
        same("26 none", x.buy(0), 0);
        same("27 in place", x.bought(1), 0);
        same("28 in place", x.pays(1), 0);
        fails("27 none", BOUNDS, () -> x.bought(4));
        fails("27 below", BOUNDS, () -> x.bought(-1));
        fails("28 none", BOUNDS, () -> x.pays(4));
        fails("28 below", BOUNDS, () -> x.pays(-1));
        Bandplan y = new Bandplan();
        y.addBidder(10, 10, 0);
        y.addBidder(10, 10, 10);
        same("26 ties", y.buy(3), 3);
        same("27 lowest first", y.bought(0), 2);
        same("27 the rest", y.bought(1), 1);
        same("28 two", y.pays(0), 20);
        same("28 one", y.pays(1), 0);
    }

    private static void promise29to31() {
        Bandplan x = oneCell(400);
        fails("29 crews 0", ARGUMENT, () -> x.move(0));
        fails("29 crews 5", ARGUMENT, () -> x.move(5));
        fails("29 no selling", UNSUPPORTED, () -> x.move(1));
        fails("30 none", BOUNDS, () -> x.phaseOf(1));
        fails("30 no move", MISSING, () -> x.phaseOf(0));
        same("31 no move", x.dark(), 0);
        // The first one leaves the channel of the second one in the very phase.
        int[] due = {0, 2, 1, 1, 1};
        for (int crews = 1; crews <= 4; crews++) {
            Bandplan y = sold(3, new int[] {1, 5, 2}, 400, 400, 400);
            same("29 crews " + crews, y.move(crews), due[crews]);
            same("30 first", y.phaseOf(0), 1);
            same("30 second", y.phaseOf(1), due[crews]);
            same("30 there already", y.phaseOf(2), 0);
            same("31 none", y.dark(), 0);
            for (int i = 0; i < 3; i++) {
                same("29 channel", y.channelOf(i, 0), i);
            }
            same("29 again", y.move(crews), 0);
            same("30 all there", y.phaseOf(0), 0);
        }
        promise29Dark();
        promise29Eight();
        promise29Others();
        promise29Selling();
    }

    private static void promise29Dark() {
        for (int crews = 1; crews <= 4; crews++) {
            Bandplan x = sold(2, new int[] {1, 0}, 400, 400);
            x.goOn(1);
            same("29 a swap", x.move(crews), 3);
            same("31 one", x.dark(), 1);
            same("30 second", x.phaseOf(1), 2);
            same("30 dark one", x.phaseOf(0), 3);
            same("29 channel", x.channelOf(0, 1), 0);
            same("29 other channel", x.channelOf(1, 1), 1);
            same("29 day before", x.channelOf(0, 0), 1);
            same("29 once more", x.move(crews), 0);
            same("31 last move alone", x.dark(), 0);
        }
        Bandplan y = sold(1, new int[] {3}, 400);
        y.addStation(0, 1, 400, true);
        y.putOn(1, 0);
        y.setAsked(0, 0);
        same("29 stays off", y.move(1), 1);
        same("31 for good", y.dark(), 1);
        fails("30 in no phase", MISSING, () -> y.phaseOf(0));
        fails("30 not of the move", MISSING, () -> y.phaseOf(1));
        same("29 off", y.channelOf(0, 0), -1);
        same("29 the other one", y.channelOf(1, 0), 0);
        same("29 none is left", y.move(1), 0);
        same("31 none is left", y.dark(), 0);
        // Two on each other's channel, a third one that can go: no dark one in its phase.
        Bandplan z = sold(3, new int[] {1, 0, 7}, 400, 400, 400);
        same("29 with a third", z.move(1), 4);
        same("30 third", z.phaseOf(2), 1);
        same("30 then the second", z.phaseOf(1), 3);
        same("30 last the dark one", z.phaseOf(0), 4);
        same("31 in the second", z.dark(), 1);
    }

    private static void promise29Eight() {
        int[] powers = {400, 400, 400, 400, 400, 400, 400, 400};
        // Each pair that swaps needs a dark one, and two phases more.
        for (int crews = 1; crews <= 4; crews++) {
            Bandplan x = sold(8, new int[] {7, 6, 5, 4, 3, 2, 1, 0}, powers);
            same("29 eight swap", x.move(crews), 12);
            same("31 four", x.dark(), 4);
            for (int i = 0; i < 8; i++) {
                same("30 swap " + i, x.phaseOf(i), i < 4 ? 3 * i + 3 : 23 - 3 * i);
                same("29 place " + i, x.channelOf(i, 0), i);
            }
        }
        // Each one waits for the one before, the first one, dark, for the last one.
        int[] due = {0, 9, 6, 5, 4};
        for (int crews = 1; crews <= 4; crews++) {
            Bandplan x = sold(8, new int[] {1, 2, 3, 4, 5, 6, 7, 0}, powers);
            same("29 eight turn", x.move(crews), due[crews]);
            same("31 one of eight", x.dark(), 1);
            same("30 last one", x.phaseOf(0), due[crews]);
            for (int i = 1; i < 8; i++) {
                same("30 turn " + i, x.phaseOf(i), 2 + (i - 1) / crews);
            }
        }
    }

    private static void promise29Others() {
        // Secondary ones in the way go off, others stay.
        Bandplan x = sold(1, new int[] {3, 0, 0, 1}, 400, -300, -400, -300);
        x.setForeign(0, true);
        same("29 secondary ones", x.move(1), 1);
        same("29 goes off", x.channelOf(1, 0), -1);
        same("29 goes off too", x.channelOf(2, 0), -1);
        same("29 beside", x.channelOf(3, 0), 1);
        fails("30 secondary", MISSING, () -> x.phaseOf(1));
        // The move needs no yes.
        Bandplan y = new Bandplan();
        y.addSite(19, 0, 0);
        y.addSite(19, 0, 0);
        y.addStation(0, 1, 400, true);
        y.putOn(0, 4);
        y.setAsked(0, 2);
        y.sell(1, 1, 1);
        y.setForeign(0, true);
        same("29 no yes", y.move(4), 1);
        same("29 abroad", y.channelOf(0, 0), 0);
        // Two that do not bar a third one harm it together.
        Bandplan z = threeCells();
        z.setRatio(240);
        putAll(z, 0, 3, 6);
        askAll(z, 2, 2, 2);
        z.sell(1, 1, 1);
        same("29 into one channel", z.move(1), 2);
        no("29 harmed together", z.keeps(0));
        yes("34 behind a move", z.isSound());
        z.addStation(0, 1, 0, false);
        fails("11 another one does not keep", UNSUPPORTED, () -> z.putOn(3, 7));
        same("12 off", z.putOff(0), 0);
        same("11 again", z.putOn(3, 7), 0);
    }

    private static void promise29Selling() {
        Bandplan x = sold(2, new int[] {7, 4, 1}, 400, 400, -200);
        x.putOff(0);
        same("29 only who is on", x.move(1), 1);
        same("29 alone", x.channelOf(1, 0), 0);
        fails("30 off", MISSING, () -> x.phaseOf(0));
        x.putOff(1);
        same("29 nobody", x.move(1), 0);
        fails("30 nobody", MISSING, () -> x.phaseOf(1));
        // Other losses behind the selling: no packing any more.
        Bandplan y = threeCells();
        putAll(y, 0, 3, 6);
        askAll(y, 2, 2, 2);
        y.sell(1, 1, 1);
        same("29 a move ahead", y.move(1), 2);
        for (int i = 0; i < 3; i++) {
            y.putOff(i);
        }
        y.setRatio(300);
        putAll(y, 7, 3, 0);
        fails("29 no packing", UNSUPPORTED, () -> y.move(1));
        same("30 unchanged", y.phaseOf(1), 1);
        same("29 unchanged", y.channelOf(0, 0), 7);
        // Bought ones do not move, though they are on again.
        Bandplan z = oneCell(400, 400);
        putAll(z, 3, 5);
        askAll(z, 9, 0);
        z.sell(5, 5, 1);
        z.putOn(1, 7);
        same("29 bought", z.move(1), 1);
        same("29 stays there", z.channelOf(1, 0), 7);
        same("29 goes", z.channelOf(0, 0), 0);
    }

    private static void promise32and33() {
        Bandplan x = new Bandplan();
        fails("32 none", ARITHMETIC, x::onShare);
        fails("33 none", ARITHMETIC, x::meanLevel);
        Bandplan y = oneCell(400, -101, 300);
        same("32 none on", y.onShare(), 0);
        fails("33 none on", ARITHMETIC, y::meanLevel);
        y.putOn(0, 0);
        same("32 one", y.onShare(), 1f / 3f);
        same("33 one", y.meanLevel(), 200);
        y.putOn(1, 7);
        same("32 two", y.onShare(), 2f / 3f);
        same("33 two", y.meanLevel(), 101 / 2.0);
        y.putOn(2, 4);
        same("32 all", y.onShare(), 1);
        same("33 all", y.meanLevel(), 201 / 3.0);
        y.putOff(0);
        same("33 without one", y.meanLevel(), 1 / 2.0);
    }

    private static void promise34() {
        Bandplan x = oneCell(400, 400, -300);
        yes("34 off", x.isSound());
        putAll(x, 0, 1, 3);
        yes("34 on", x.isSound());
        x.goOn(9);
        yes("34 later", x.isSound());
        x.addBidder(5, 3, 1);
        x.addBidder(4, 4, 0);
        x.buy(2);
        yes("34 bought", x.isSound());
        askAll(x, 20, 10);
        x.sell(100, 7, 1);
        askAll(x, 9999, 9999);
        yes("34 asks more later", x.isSound());
        x.putOff(0);
        x.putOff(1);
        yes("34 empty", x.isSound());
    }

    public static void main(String[] args) {
        promise1();
        promise2();
        promise3();
        promise4();
        promise5();
        promise6();
        promise7();
        promise8();
        promise9();
        promise10();
        promise11();
        promise12();
        promise13();
        promise14();
        promise15to17();
        promise18();
        promise19and20();
        promise21();
        promise22to24();
        promise25to28();
        promise29to31();
        promise32and33();
        promise34();
        end("all promises hold");
    }
}
