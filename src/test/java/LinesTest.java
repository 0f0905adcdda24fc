import java.io.IOException;

/** Each line of the promises that names a range, an exception or a special answer, by a test of its own. */
public final class LinesTest extends Checks {
    private interface Using {
        void use(Bandplan x);
    }

    private interface Asking {
        void ask(Bandplan x, int number);
    }

    private interface Pairing {
        void ask(Bandplan x, int one, int other);
    }

    private static final String CELL = "Throws `IndexOutOfBoundsException` if there is no such cell";
    private static final String SITE = "Throws `IndexOutOfBoundsException` if there is no such site, for either";
    private static final String STATION = "Throws `IndexOutOfBoundsException` if there is no such station";
    private static final String BIDDER = "Throws `IndexOutOfBoundsException` if there is no such bidder";
    private static final String RANGE = "Throws `IllegalArgumentException` if the number is out of range";
    private static final String CHANNEL = "Throws `IllegalArgumentException` if there is no such channel";
    private static final String ON = "Throws `IllegalStateException` if a station is on";

    private static Document document;
    private static int promise;

    private static void line(String text, Call test) {
        document.test("Promise " + promise, text, test);
    }

    /** A line on stations: none stands in a new land, one in this one, 8 in a full one. */
    private static void stationLine(Asking call) {
        line(STATION, () -> stationsBeyond(call));
    }

    private static void stationsBeyond(Asking call) {
        beyond(BOUNDS, 0, -1, station -> call.ask(new Bandplan(), station));
        beyond(BOUNDS, 0, -1, station -> call.ask(oneCell(), station));
        beyond(BOUNDS, 0, 0, station -> call.ask(crowd(1), station));
        beyond(BOUNDS, 0, 7, station -> call.ask(full(), station));
        for (int station = 0; station < 8; station++) {
            int it = station;
            no("station " + it + " is there", isRefused(BOUNDS, () -> call.ask(full(), it)));
        }
    }

    private static boolean isRefused(Class<?> with, Call call) {
        try {
            call.run();
            return false;
        } catch (RuntimeException e) {
            return e.getClass() == with;
        }
    }

    /** A range: both ends are taken, and what is beyond them is refused. */
    private static void rangeLines(String parameter, String refusal, int least, int most, Taking call) {
        line(parameter, () -> ends(least, most, call));
        line(refusal, () -> beyond(ARGUMENT, least, most, call));
    }

    private static void land() {
        promise = 1;
        line("Creates a land without sites and stations, on the day 0.", LinesTest::empty);
        promise = 2;
        line("- `column`: the column, 0 to 19", () -> ends(0, 19, v -> new Bandplan().setGround(v, 1, 1)));
        line("- `row`: the row, 0 to 19", () -> ends(0, 19, v -> new Bandplan().setGround(1, v, 1)));
        line(CELL, () -> cellsBeyond((x, column, row) -> x.setGround(column, row, 1)));
        rangeLines("- `ground`: the ground, 0 to 99", RANGE, 0, 99, v -> new Bandplan().setGround(1, 1, v));
        line("Returns the ground before.", LinesTest::groundBefore);
        line(ON, () -> whileOn(x -> x.setGround(19, 19, 0)));
        promise = 3;
        line("- `column`: the column, 0 to 19", () -> ends(0, 19, v -> new Bandplan().addSite(v, 1, 1)));
        line("- `row`: the row, 0 to 19", () -> ends(0, 19, v -> new Bandplan().addSite(1, v, 1)));
        line(CELL, () -> cellsBeyond((x, column, row) -> x.addSite(column, row, 1)));
        rangeLines("- `height`: the height, 0 to 99", RANGE, 0, 99, v -> new Bandplan().addSite(1, 1, v));
        line("Returns the number of the site.", LinesTest::siteNumbers);
        line("Throws `IllegalStateException` if there are 10", LinesTest::tenSites);
        promise = 4;
        line("Returns the loss, 0 if both are the same.", LinesTest::sameSite);
        line(SITE, () -> sitesBeyond((x, one, other) -> x.loss(one, other)));
    }

    private static void empty() {
        fails("a site", BOUNDS, () -> new Bandplan().loss(0, 0));
        fails("a station", BOUNDS, () -> new Bandplan().channelOf(0, 0));
        fails("a bidder", BOUNDS, () -> new Bandplan().pays(0));
        same("the first site", new Bandplan().addSite(0, 0, 0), 0);
        same("the first station", oneCell().addStation(0, 1, 0, true), 0);
        same("the first bidder", new Bandplan().addBidder(0, 0, 0), 0);
        same("the day behind", new Bandplan().goOn(1), 1);
        same("the day 0", crowd(1).channelOf(0, 0), -1);
        fails("no day behind it", ARGUMENT, () -> crowd(1).channelOf(0, 1));
        yes("sound", new Bandplan().isSound());
    }

    private static void cellsBeyond(Pairing call) {
        for (int inside : new int[] {0, 19}) {
            beyond(BOUNDS, 0, 19, column -> call.ask(new Bandplan(), column, inside));
            beyond(BOUNDS, 0, 19, row -> call.ask(new Bandplan(), inside, row));
        }
        beyond(BOUNDS, 0, 19, both -> call.ask(new Bandplan(), both, both));
        // Counted on over the rows, these would be cells.
        fails("column 1 less 20 rows", BOUNDS, () -> call.ask(new Bandplan(), 1, -20));
        fails("column 0 and 25 rows", BOUNDS, () -> call.ask(new Bandplan(), 0, 25));
    }

    private static void groundBefore() {
        Bandplan x = new Bandplan();
        int[] grounds = {99, 99, 0, 1, 0};
        int before = 0;
        for (int ground : grounds) {
            same("before " + ground, x.setGround(19, 0, ground), before);
            before = ground;
        }
    }

    /** Refused while any one is on, the last one of 8 or a secondary one, and not any more once all are off. */
    private static void whileOn(Using call) {
        for (int station = 0; station < 8; station++) {
            Bandplan x = full();
            holds("all are off", () -> call.use(x));
            x.putOn(station, 7 - station);
            fails("station " + station + " is on", STATE, () -> call.use(x));
            x.goOn(1);
            fails("station " + station + " is on still", STATE, () -> call.use(x));
            x.putOff(station);
            holds("off again", () -> call.use(x));
        }
    }

    private static void siteNumbers() {
        Bandplan x = new Bandplan();
        for (int i = 0; i < 10; i++) {
            fails("not yet", BOUNDS, () -> x.loss(0, x.addSite(5, 5, 0) + 1));
        }
        same("the last one is 9", x.loss(9, 9), 0);
    }

    private static void tenSites() {
        Bandplan x = new Bandplan();
        for (int i = 0; i < 10; i++) {
            same("number", x.addSite(i, 0, 0), i);
        }
        for (int i = 0; i < 3; i++) {
            fails("full", STATE, () -> x.addSite(0, 0, 0));
        }
        same("none went", x.loss(0, 9), 200 + 8 * 90);
        fails("none came", BOUNDS, () -> x.loss(0, 10));
    }

    private static void sameSite() {
        Bandplan x = full();
        for (int i = 0; i < 10; i++) {
            same("site " + i, x.loss(i, i), 0);
        }
        same("two sites in one cell are not the same", oneCell().loss(0, 1), 200);
    }

    private static void sitesBeyond(Pairing call) {
        for (int inside : new int[] {0, 9}) {
            beyond(BOUNDS, 0, 9, one -> call.ask(tenSitesAlone(), one, inside));
            beyond(BOUNDS, 0, 9, other -> call.ask(tenSitesAlone(), inside, other));
        }
        beyond(BOUNDS, 0, 9, both -> call.ask(tenSitesAlone(), both, both));
        holds("the last two of ten", () -> call.ask(tenSitesAlone(), 9, 8));
        fails("the third one of two", BOUNDS, () -> call.ask(oneCell(), 0, 2));
        fails("the second one of none", BOUNDS, () -> call.ask(new Bandplan(), 0, 1));
        fails("the first one of none", BOUNDS, () -> call.ask(new Bandplan(), 0, 0));
    }

    private static Bandplan tenSitesAlone() {
        Bandplan x = new Bandplan();
        for (int i = 0; i < 10; i++) {
            x.addSite(i, i, i);
        }
        return x;
    }

    private static void stations() {
        promise = 5;
        line("- `power`: the power, 0 to 500", () -> ends(0, 500, v -> oneCell().addStation(0, 1, v, true)));
        line(SITE, () -> sitesBeyond((x, one, other) -> x.addStation(one, other, 1, true)));
        line("Throws `IllegalArgumentException` if both are the same, or the number is out of range",
            LinesTest::sameOrPower);
        line("Throws `IllegalStateException` if there are 8", LinesTest::eightStations);
        promise = 6;
        rangeLines("- `ratio`: the ratio, 0 to 500", RANGE, 0, 500, v -> new Bandplan().setRatio(v));
        line("Returns the one before.", LinesTest::ratioBefore);
        line(ON, () -> whileOn(x -> x.setRatio(170)));
        promise = 7;
        stationLine((x, station) -> x.level(station));
        promise = 8;
        stationLine((x, station) -> x.harm(station));
        line("Throws `UnsupportedOperationException` if it is off", () -> whileOff((x, it) -> x.harm(it)));
        line("Throws `NoSuchElementException` if nothing harms it", LinesTest::nothingHarms);
        promise = 9;
        stationLine((x, station) -> x.keeps(station));
        line("Throws `UnsupportedOperationException` if it is off", () -> whileOff((x, it) -> x.keeps(it)));
        promise = 10;
        line("- `channel`: its channel, 0 to 7", () -> eachChannel(false));
        line("- `otherChannel`: its channel, 0 to 7", () -> eachChannel(true));
        line(STATION + ", for either", LinesTest::eitherStation);
        line("Throws `IllegalArgumentException` if both are the same, or there is no such channel",
            LinesTest::sameOrChannel);
    }

    private static void sameOrPower() {
        beyond(ARGUMENT, 0, 500, v -> oneCell().addStation(0, 1, v, true));
        beyond(ARGUMENT, 0, 500, v -> oneCell().addStation(1, 0, v, false));
        for (int site = 0; site < 2; site++) {
            int it = site;
            fails("site " + it + " for both", ARGUMENT, () -> oneCell().addStation(it, it, 100, true));
            fails("and a wrong power", ARGUMENT, () -> oneCell().addStation(it, it, 501, true));
        }
        holds("two sites in one cell", () -> oneCell().addStation(1, 0, 100, true));
    }

    private static void eightStations() {
        Bandplan x = oneCell();
        for (int i = 0; i < 8; i++) {
            same("number", x.addStation(0, 1, i, i % 2 == 0), i);
        }
        for (int i = 0; i < 3; i++) {
            boolean is = i == 0;
            fails("full", STATE, () -> x.addStation(0, 1, 1, is));
        }
        same("none went", x.level(7), -193);
        fails("none came", BOUNDS, () -> x.level(8));
    }

    private static void ratioBefore() {
        Bandplan x = new Bandplan();
        int before = 170;
        for (int ratio : new int[] {170, 0, 0, 500, 170}) {
            same("before " + ratio, x.setRatio(ratio), before);
            before = ratio;
        }
    }

    private static void whileOff(Asking call) {
        Bandplan x = oneCell(-400, -400);
        for (int station = 0; station < 2; station++) {
            int it = station;
            fails("at first", UNSUPPORTED, () -> call.ask(x, it));
        }
        putAll(x, 0, 0);
        for (int station = 0; station < 2; station++) {
            int it = station;
            holds("on the lowest channel", () -> call.ask(x, it));
            x.putOff(it);
            fails("off again", UNSUPPORTED, () -> call.ask(x, it));
            x.putOn(it, 0);
        }
    }

    private static void nothingHarms() {
        Bandplan x = oneCell(-400, -400);
        x.putOn(0, 0);
        fails("alone", MISSING, () -> x.harm(0));
        x.putOn(1, 3);
        fails("another one, 3 channels away", MISSING, () -> x.harm(0));
        fails("nor the other way", MISSING, () -> x.harm(1));
        x.putOn(1, 7);
        fails("at the other end of the channels", MISSING, () -> x.harm(0));
        x.putOn(1, 2);
        same("2 channels away", x.harm(0), -300);
        x.putOff(1);
        fails("gone off", MISSING, () -> x.harm(0));
        Bandplan y = oneCell(-200, -200);
        putAll(y, 4, 4);
        same("a harm of 0 is harm", y.harm(0), 0);
    }

    /** With a level of 90, a power of 500 bars on the same channel and both next ones. */
    private static void eachChannel(boolean isTurned) {
        Bandplan x = isTurned ? oneCell(-500, 290) : oneCell(290, -500);
        for (int channel = 0; channel < 8; channel++) {
            for (int other = 0; other < 8; other++) {
                boolean isNear = Math.abs(channel - other) < 2;
                same(channel + " and " + other, x.bars(0, channel, 1, other) ? 1 : 0, isNear ? 1 : 0);
            }
        }
    }

    private static void eitherStation() {
        stationsBeyond((x, station) -> x.bars(station, 0, station == 0 ? 1 : 0, 0));
        beyond(BOUNDS, 0, 7, v -> full().bars(0, 0, v, 0));
        beyond(BOUNDS, 0, 7, v -> full().bars(v, 0, 0, 0));
        beyond(BOUNDS, 0, 7, v -> full().bars(v, 0, v, 0));
        holds("the last two", () -> full().bars(7, 0, 6, 0));
        fails("the second one of one", BOUNDS, () -> crowd(1).bars(0, 0, 1, 0));
    }

    private static void sameOrChannel() {
        beyond(ARGUMENT, 0, 7, v -> crowd(2).bars(0, v, 1, 0));
        beyond(ARGUMENT, 0, 7, v -> crowd(2).bars(0, 0, 1, v));
        beyond(ARGUMENT, 0, 7, v -> crowd(2).bars(1, v, 0, v));
        for (int station = 0; station < 8; station++) {
            int it = station;
            fails("itself", ARGUMENT, () -> full().bars(it, 0, it, 0));
            fails("itself, on another channel", ARGUMENT, () -> full().bars(it, 0, it, 7));
        }
    }

    private static void register() {
        promise = 11;
        line("- `channel`: the channel, 0 to 7", () -> ends(0, 7, v -> crowd(1).putOn(0, v)));
        line("Returns how many secondary stations went off by that.", LinesTest::wentOff);
        stationLine((x, station) -> x.putOn(station, 0));
        line(CHANNEL, () -> beyond(ARGUMENT, 0, 7, v -> crowd(1).putOn(0, v)));
        line("Throws `IllegalStateException` if a yes is needed that does not count", LinesTest::yesNeeded);
        line("Throws `UnsupportedOperationException` if a protected one would not keep its level",
            LinesTest::wouldNotKeep);
        promise = 12;
        line("Returns the channel on which it was, or -1.", LinesTest::channelBefore);
        stationLine((x, station) -> x.putOff(station));
        promise = 13;
        line("- `day`: the day, from 0 to this one", LinesTest::daysThere);
        line("Returns the channel at the end of this day, or as it is now for this one, -1 if it was off.",
            LinesTest::channelAtDay);
        stationLine((x, station) -> x.channelOf(station, 0));
        line("Throws `IllegalArgumentException` if there is no such day yet", LinesTest::daysNotThere);
    }

    private static void wentOff() {
        for (int secondary = 0; secondary < 8; secondary++) {
            Bandplan x = oneCell(400, -400, -400, -400, -400, -400, -400, -400);
            for (int i = 1; i <= secondary; i++) {
                x.putOn(i, 6);
            }
            same(secondary + " of them", x.putOn(0, 6), secondary);
        }
        Bandplan y = oneCell(400, -400);
        putAll(y, 0, 1);
        same("a secondary one puts none off", y.putOn(1, 2), 0);
        y.putOff(1);
        same("one that is off already does not count", y.putOn(0, 2), 0);
    }

    private static void yesNeeded() {
        Bandplan x = new Bandplan();
        x.addSite(15, 0, 0);
        x.addSite(0, 0, 0);
        x.addStation(1, 0, 400, true);
        x.setForeign(0, true);
        fails("none asked for", STATE, () -> x.putOn(0, 0));
        x.askAbroad(0, 0);
        fails("on the day of asking", STATE, () -> x.putOn(0, 0));
        x.goOn(2);
        fails("two days behind", STATE, () -> x.putOn(0, 0));
        x.goOn(1);
        same("on the third day", x.putOn(0, 0), 0);
        x.putOff(0);
        x.askAbroad(0, 0);
        x.object(0, 0);
        x.goOn(99);
        fails("behind an objection", STATE, () -> x.putOn(0, 0));
        same("a channel that is not foreign", x.putOn(0, 1), 0);
    }

    private static void wouldNotKeep() {
        // Level 200, ratio 170: a harm of 30 is borne, 31 is not.
        Bandplan x = oneCell(400, -230, -231);
        x.putOn(0, 7);
        same("just so", x.putOn(1, 7), 0);
        x.putOff(1);
        fails("one beyond", UNSUPPORTED, () -> x.putOn(2, 7));
        Bandplan y = crowd(2);
        y.putOn(1, 0);
        fails("itself and the other one", UNSUPPORTED, () -> y.putOn(0, 0));
        Bandplan z = oneCell(1);
        same("alone it keeps any level", z.putOn(0, 0), 0);
    }

    private static void channelBefore() {
        Bandplan x = crowd(1);
        same("off at first", x.putOff(0), -1);
        for (int channel = 0; channel < 8; channel++) {
            x.putOn(0, channel);
            same("was on", x.putOff(0), channel);
            same("off already", x.putOff(0), -1);
        }
    }

    private static void daysThere() {
        Bandplan x = crowd(1);
        holds("only the day 0", () -> x.channelOf(0, 0));
        x.goOn(99);
        x.goOn(1);
        ends(0, 100, day -> x.channelOf(0, day));
    }

    private static void daysNotThere() {
        Bandplan x = crowd(1);
        beyond(ARGUMENT, 0, 0, day -> x.channelOf(0, day));
        x.goOn(1);
        beyond(ARGUMENT, 0, 1, day -> x.channelOf(0, day));
        x.goOn(99);
        beyond(ARGUMENT, 0, 100, day -> x.channelOf(0, day));
    }

    private static void channelAtDay() {
        Bandplan x = crowd(2);
        x.goOn(1);
        x.putOn(0, 0);
        same("as it is now", x.channelOf(0, 1), 0);
        x.putOn(0, 7);
        same("as it is now, changed", x.channelOf(0, 1), 7);
        same("ahead of all changes", x.channelOf(0, 0), -1);
        x.goOn(1);
        same("no change", x.channelOf(0, 2), 7);
        x.putOff(0);
        same("off now", x.channelOf(0, 2), -1);
        same("the end of the day before", x.channelOf(0, 1), 7);
        same("the other one", x.channelOf(1, 1), -1);
        x.addStation(0, 1, 400, true);
        x.putOn(2, 3);
        same("ahead of its own first day", x.channelOf(2, 0), -1);
        same("on its own first day", x.channelOf(2, 2), 3);
    }

    private static void abroad() {
        promise = 14;
        rangeLines("- `channel`: the channel, 0 to 7", CHANNEL, 0, 7, v -> new Bandplan().setForeign(v, true));
        line("Returns whether it was.", LinesTest::wasForeign);
        promise = 15;
        rangeLines("- `channel`: the channel, 0 to 7", CHANNEL, 0, 7, v -> crowd(1).askAbroad(0, v));
        line("Asks for a yes, in place of one that was asked for.", LinesTest::askedAgain);
        stationLine((x, station) -> x.askAbroad(station, 0));
        promise = 16;
        line("- `channel`: the channel, 0 to 7", () -> ends(0, 7, LinesTest::objectsOn));
        line("Returns whether it comes in time.", LinesTest::inTime);
        stationLine((x, station) -> x.object(station, 0));
        line(CHANNEL, () -> beyond(ARGUMENT, 0, 7, v -> crowd(1).object(0, v)));
        line("Throws `NoSuchElementException` if none was asked for", LinesTest::noneAskedFor);
        promise = 17;
        rangeLines("- `channel`: the channel, 0 to 7", CHANNEL, 0, 7, v -> crowd(1).hasYes(0, v));
        line("Returns whether it counts now.", LinesTest::countsNow);
        stationLine((x, station) -> x.hasYes(station, 0));
        promise = 18;
        rangeLines("- `days`: the days, 1 to 99", RANGE, 1, 99, v -> new Bandplan().goOn(v));
        line("Returns the day then.", LinesTest::dayThen);
    }

    private static void wasForeign() {
        Bandplan x = new Bandplan();
        for (int channel = 0; channel < 8; channel++) {
            no("at first", x.setForeign(channel, channel % 2 == 0));
        }
        for (int channel = 0; channel < 8; channel++) {
            same("channel " + channel, x.setForeign(channel, true) ? 1 : 0, channel % 2 == 0 ? 1 : 0);
            yes("twice", x.setForeign(channel, false));
            no("no more", x.setForeign(channel, false));
        }
    }

    private static void askedAgain() {
        Bandplan x = crowd(1);
        same("from the third day on", x.askAbroad(0, 0), 3);
        x.object(0, 0);
        x.goOn(1);
        same("anew behind an objection", x.askAbroad(0, 0), 4);
        x.goOn(2);
        no("not from the first day on", x.hasYes(0, 0));
        x.goOn(1);
        yes("without the objection", x.hasYes(0, 0));
        same("in place of one that counts", x.askAbroad(0, 0), 7);
        no("which counts no more", x.hasYes(0, 0));
        yes("an objection comes in time again", x.object(0, 0));
    }

    private static void objectsOn(int channel) {
        Bandplan x = crowd(1);
        x.askAbroad(0, channel);
        x.object(0, channel);
    }

    private static void inTime() {
        for (int day = 0; day <= 4; day++) {
            Bandplan x = crowd(1);
            x.goOn(5);
            x.askAbroad(0, 3);
            for (int i = 0; i < day; i++) {
                x.goOn(1);
            }
            boolean is = day < 3;
            same("day " + day, x.object(0, 3) ? 1 : 0, is ? 1 : 0);
            same("again", x.object(0, 3) ? 1 : 0, is ? 1 : 0);
            x.goOn(9);
            same("then", x.hasYes(0, 3) ? 1 : 0, is ? 0 : 1);
            no("late", x.object(0, 3));
        }
    }

    private static void noneAskedFor() {
        Bandplan x = crowd(2);
        for (int channel = 0; channel < 8; channel++) {
            int it = channel;
            fails("none at all", MISSING, () -> x.object(1, it));
        }
        x.askAbroad(1, 6);
        fails("for another channel", MISSING, () -> x.object(1, 7));
        fails("for another station", MISSING, () -> x.object(0, 6));
        yes("asked for", x.object(1, 6));
        x.goOn(50);
        no("long ago", x.object(1, 6));
    }

    private static void countsNow() {
        Bandplan x = crowd(2);
        no("none asked for", x.hasYes(0, 0));
        x.askAbroad(0, 0);
        for (int day = 0; day < 3; day++) {
            no("day " + day, x.hasYes(0, 0));
            x.goOn(1);
        }
        yes("the third day", x.hasYes(0, 0));
        no("of the other station", x.hasYes(1, 0));
        no("of another channel", x.hasYes(0, 1));
        x.goOn(99);
        yes("long after", x.hasYes(0, 0));
    }

    private static void dayThen() {
        Bandplan x = new Bandplan();
        same("one", x.goOn(1), 1);
        same("the most", x.goOn(99), 100);
        same("one again", x.goOn(1), 101);
    }

    private static void packings() {
        promise = 19;
        line("Returns whether all protected stations, on or off, can be packed.", LinesTest::onOrOff);
        rangeLines("- `channels`: the number of channels, 1 to 8", RANGE, 1, 8, v -> crowd(1).canPack(v));
        promise = 20;
        rangeLines("- `channels`: the number of channels, 1 to 8", RANGE, 1, 8, v -> crowd(1).packed(v, 0));
        stationLine((x, station) -> x.packed(8, station));
        line("Throws `UnsupportedOperationException` if it is not protected", LinesTest::notProtected);
        line("Throws `NoSuchElementException` if there is no packing", LinesTest::noPacking);
    }

    private static void onOrOff() {
        Bandplan x = crowd(3);
        no("all off", x.canPack(2));
        putAll(x, 1, 4, 7);
        no("all on", x.canPack(2));
        yes("wherever they are", x.canPack(3));
        x.putOff(0);
        no("one off", x.canPack(2));
        yes("no station", new Bandplan().canPack(1));
        yes("secondary ones alone", oneCell(-400, -400).canPack(1));
        yes("beside a protected one", oneCell(400, -400).canPack(1));
    }

    private static void notProtected() {
        Bandplan x = oneCell(-400, 400, -400);
        fails("the first one", UNSUPPORTED, () -> x.packed(8, 0));
        same("the protected one", x.packed(1, 1), 0);
        fails("the last one", UNSUPPORTED, () -> x.packed(8, 2));
        putAll(x, 0, 4);
        fails("though it is on", UNSUPPORTED, () -> x.packed(8, 0));
    }

    private static void noPacking() {
        for (int channels = 1; channels < 8; channels++) {
            int it = channels;
            fails("one more station than channels", MISSING, () -> crowd(it + 1).packed(it, it));
            same("as many", crowd(it).packed(it, it - 1), it - 1);
        }
        fails("not even the first one", MISSING, () -> crowd(2).packed(1, 0));
        Bandplan x = crowd(5);
        x.setRatio(301);
        fails("not in all 8", MISSING, () -> x.packed(8, 4));
    }

    private static void selling() {
        promise = 21;
        rangeLines("- `price`: the price, 0 to 9999", RANGE, 0, 9999, v -> crowd(1).setAsked(0, v));
        line("Returns what it asked before.", LinesTest::askedBefore);
        stationLine((x, station) -> x.setAsked(station, 1));
        promise = 22;
        line("- `price`: the first price, 1 to 9999", () -> ends(1, 9999, v -> oneOn().sell(v, 9, 1)));
        line("- `step`: the step, 1 to 999", () -> ends(1, 999, v -> oneOn().sell(500, v, 1)));
        line("- `channels`: the number of channels, 1 to 8", () -> ends(1, 8, v -> oneOn().sell(9, 9, v)));
        line("Returns how many were bought.", LinesTest::howManyBought);
        line("Throws `IllegalArgumentException` if a number is out of range", LinesTest::sellingBeyond);
        line("Throws `UnsupportedOperationException` if no protected station is on, or those that stay at once cannot"
            + " be packed", LinesTest::noSelling);
        promise = 23;
        stationLine((x, station) -> x.priceOf(station));
        line("Throws `NoSuchElementException` if it was not", LinesTest::notBought);
        promise = 24;
        line("Returns the number of rounds, 0 without one.", LinesTest::roundsThere);
    }

    private static Bandplan oneOn() {
        Bandplan x = crowd(1);
        x.putOn(0, 0);
        return x;
    }

    private static void askedBefore() {
        Bandplan x = oneCell(400, -400);
        same("a secondary one", x.setAsked(1, 9999), 0);
        int before = 0;
        for (int price : new int[] {0, 9999, 9999, 0, 1, 5}) {
            same("before " + price, x.setAsked(0, price), before);
            before = price;
        }
        same("the secondary one's own", x.setAsked(1, 0), 9999);
    }

    private static void sellingBeyond() {
        beyond(ARGUMENT, 1, 9999, v -> oneOn().sell(v, 9, 1));
        beyond(ARGUMENT, 1, 999, v -> oneOn().sell(500, v, 1));
        beyond(ARGUMENT, 1, 8, v -> oneOn().sell(9, 9, v));
    }

    private static void howManyBought() {
        for (int stations = 1; stations <= 8; stations++) {
            Bandplan x = crowd(stations);
            for (int i = 0; i < stations; i++) {
                x.putOn(i, i);
            }
            same("all of " + stations, x.sell(1, 1, 1), stations);
        }
        Bandplan x = oneOn();
        x.setAsked(0, 1);
        same("none", x.sell(1, 1, 1), 0);
    }

    private static void noSelling() {
        fails("no station", UNSUPPORTED, () -> new Bandplan().sell(1, 1, 1));
        Bandplan x = oneCell(400, -400);
        fails("all off", UNSUPPORTED, () -> x.sell(1, 1, 1));
        x.putOn(1, 0);
        fails("only a secondary one on", UNSUPPORTED, () -> x.sell(1, 1, 1));
        x.putOn(0, 1);
        same("a protected one on the lowest number", x.sell(1, 1, 1), 1);
        fails("bought already", UNSUPPORTED, () -> x.sell(1, 1, 1));
        Bandplan y = crowd(8);
        putAll(y, 0, 1, 2, 3, 4, 5, 6, 7);
        askAll(y, 2, 2, 2, 2, 2, 2, 2, 2);
        fails("eight that stay in seven", UNSUPPORTED, () -> y.sell(1, 1, 7));
        same("in eight", y.sell(1, 1, 8), 0);
        y.setAsked(3, 1);
        same("seven that stay in seven", y.sell(1, 1, 7), 1);
    }

    private static void notBought() {
        Bandplan x = oneCell(400, 400, -400, 400);
        for (int station = 0; station < 4; station++) {
            int it = station;
            fails("no selling", MISSING, () -> x.priceOf(it));
        }
        putAll(x, 0, 1, 3);
        x.setAsked(0, 9);
        x.sell(1, 1, 2);
        fails("it stayed", MISSING, () -> x.priceOf(0));
        same("bought for 0", x.priceOf(1), 0);
        fails("secondary", MISSING, () -> x.priceOf(2));
        fails("off", MISSING, () -> x.priceOf(3));
        x.sell(1, 1, 2);
        fails("not in the last selling", MISSING, () -> x.priceOf(1));
    }

    private static void roundsThere() {
        Bandplan x = crowd(2);
        same("no selling", x.rounds(), 0);
        x.putOn(0, 0);
        x.sell(5, 6, 1);
        same("a selling without a round", x.rounds(), 0);
        x.putOn(0, 0);
        x.sell(9, 2, 1);
        same("four rounds", x.rounds(), 4);
        x.putOn(0, 0);
        x.setAsked(0, 10);
        x.sell(9, 2, 1);
        same("the last selling alone", x.rounds(), 0);
    }

    private static void buying() {
        promise = 25;
        line("- `first`: the first worth, 0 to 9999", () -> ends(0, 9999, v -> new Bandplan().addBidder(v, 0, 0)));
        line("Returns the number of the bidder.", LinesTest::bidderNumbers);
        line("Throws `IllegalArgumentException` if a number is out of range or greater than the one before",
            LinesTest::worthsBeyond);
        line("Throws `IllegalStateException` if there are 4", LinesTest::fourBidders);
        promise = 26;
        line("Lets bidders buy channels, in place of what they bought before.", LinesTest::boughtBefore);
        rangeLines("- `channels`: how many channels, 0 to 8", RANGE, 0, 8, v -> full().buy(v));
        line("Returns how many were bought.", LinesTest::channelsBought);
        promise = 27;
        line(BIDDER, () -> biddersBeyond((x, bidder) -> x.bought(bidder)));
        line("Returns how many.", LinesTest::boughtAtFirst);
        promise = 28;
        line(BIDDER, () -> biddersBeyond((x, bidder) -> x.pays(bidder)));
        line("Returns the price.", LinesTest::paysAtFirst);
    }

    private static void bidderNumbers() {
        Bandplan x = new Bandplan();
        for (int i = 0; i < 4; i++) {
            same("number", x.addBidder(i, i, i), i);
        }
    }

    private static void worthsBeyond() {
        beyond(ARGUMENT, 0, 9999, v -> new Bandplan().addBidder(v, 0, 0));
        beyond(ARGUMENT, 0, 9999, v -> new Bandplan().addBidder(9999, v, 0));
        beyond(ARGUMENT, 0, 9999, v -> new Bandplan().addBidder(9999, 9999, v));
        beyond(ARGUMENT, 0, 70, v -> new Bandplan().addBidder(70, v, 0));
        beyond(ARGUMENT, 0, 60, v -> new Bandplan().addBidder(70, 60, v));
        ends(0, 70, v -> new Bandplan().addBidder(70, v, 0));
        ends(0, 60, v -> new Bandplan().addBidder(70, 60, v));
        fails("all too great", ARGUMENT, () -> new Bandplan().addBidder(10000, 10000, 10000));
    }

    private static void fourBidders() {
        Bandplan x = full();
        fails("full", STATE, () -> x.addBidder(0, 0, 0));
        fails("full still", STATE, () -> x.addBidder(9999, 9999, 9999));
        same("none came", x.buy(8), 8);
        same("nor went", x.bought(3), 2);
    }

    private static void boughtBefore() {
        Bandplan x = new Bandplan();
        x.addBidder(9, 8, 0);
        x.addBidder(7, 0, 0);
        same("two", x.buy(2), 2);
        same("two for the first one", x.bought(0), 2);
        same("who pays", x.pays(0), 7);
        same("one", x.buy(1), 1);
        same("one for the first one", x.bought(0), 1);
        same("none", x.buy(0), 0);
        same("none for the first one", x.bought(0), 0);
        same("who pays nothing", x.pays(0), 0);
        same("all", x.buy(8), 3);
        same("the second one, too", x.bought(1), 1);
        same("for nothing", x.pays(0) + x.pays(1), 0);
    }

    private static void channelsBought() {
        same("no bidder", new Bandplan().buy(8), 0);
        Bandplan x = new Bandplan();
        x.addBidder(0, 0, 0);
        same("no worth", x.buy(8), 0);
        Bandplan y = full();
        for (int channels = 0; channels <= 8; channels++) {
            same("of 11 worths above 0", y.buy(channels), channels);
        }
        Bandplan z = new Bandplan();
        z.addBidder(3, 2, 1);
        for (int channels = 0; channels <= 8; channels++) {
            same("of 3 worths", z.buy(channels), Math.min(channels, 3));
        }
    }

    private static void biddersBeyond(Asking call) {
        beyond(BOUNDS, 0, -1, v -> call.ask(new Bandplan(), v));
        beyond(BOUNDS, 0, 3, v -> call.ask(full(), v));
        ends(0, 3, v -> call.ask(full(), v));
        Bandplan x = new Bandplan();
        x.addBidder(1, 1, 1);
        x.buy(8);
        beyond(BOUNDS, 0, 0, v -> call.ask(x, v));
    }

    private static void boughtAtFirst() {
        Bandplan x = new Bandplan();
        x.addBidder(9, 9, 9);
        same("ahead of buying", x.bought(0), 0);
        x.buy(8);
        same("three, the most", x.bought(0), 3);
        x.addBidder(9, 9, 9);
        same("come behind the buying", x.bought(1), 0);
        same("which stands", x.bought(0), 3);
    }

    private static void paysAtFirst() {
        Bandplan x = new Bandplan();
        x.addBidder(9999, 9999, 9999);
        same("ahead of buying", x.pays(0), 0);
        x.addBidder(9999, 9999, 9999);
        x.buy(3);
        same("the most", x.pays(0), 29997);
        x.addBidder(9999, 9999, 9999);
        same("come behind the buying", x.pays(2), 0);
        same("which stands", x.pays(0), 29997);
    }

    private static void moving() {
        promise = 29;
        rangeLines("- `crews`: the crews, 1 to 4", RANGE, 1, 4, v -> sold(2, new int[] {1, 5}, 400, 400).move(v));
        line("Returns the number of phases, phase 0 not counted.", LinesTest::phasesCounted);
        line("Throws `UnsupportedOperationException` if there was no selling, or there is no packing",
            LinesTest::noMove);
        promise = 30;
        stationLine((x, station) -> x.phaseOf(station));
        line("Throws `NoSuchElementException` if it did not", LinesTest::didNotMove);
        promise = 31;
        line("Returns how many, 0 without one.", LinesTest::darkOnes);
    }

    private static void phasesCounted() {
        same("all there", sold(2, new int[] {0, 1}, 400, 400).move(1), 0);
        same("one there", sold(2, new int[] {0, 5}, 400, 400).move(1), 1);
        same("none there", sold(2, new int[] {1, 5}, 400, 400).move(1), 2);
        same("nobody stayed", nobodyStayed().move(1), 0);
    }

    private static Bandplan nobodyStayed() {
        Bandplan x = oneOn();
        x.sell(1, 1, 1);
        return x;
    }

    private static void noMove() {
        fails("in a new land", UNSUPPORTED, () -> new Bandplan().move(1));
        Bandplan x = oneOn();
        fails("no selling", UNSUPPORTED, () -> x.move(1));
        x.putOff(0);
        fails("a selling that was refused", UNSUPPORTED, () -> x.sell(1, 1, 1));
        fails("is none", UNSUPPORTED, () -> x.move(1));
        Bandplan y = sold(2, new int[] {4, 7}, 400, 400);
        y.putOff(0);
        y.putOff(1);
        y.setRatio(300);
        putAll(y, 4, 7);
        same("a packing just so", y.move(1), 2);
        y.putOff(0);
        y.putOff(1);
        y.setRatio(301);
        putAll(y, 4, 7);
        fails("no packing any more", UNSUPPORTED, () -> y.move(1));
    }

    private static void didNotMove() {
        Bandplan x = sold(1, new int[] {5, 1, 3}, 400, -400, -400);
        x.addStation(0, 1, 400, true);
        for (int station = 0; station < 4; station++) {
            int it = station;
            fails("no move", MISSING, () -> x.phaseOf(it));
        }
        x.putOn(3, 7);
        x.move(1);
        same("moved", x.phaseOf(0), 1);
        fails("a secondary one", MISSING, () -> x.phaseOf(1));
        fails("not in the selling", MISSING, () -> x.phaseOf(3));
        x.putOff(0);
        same("moved in spite of being off now", x.phaseOf(0), 1);
        x.move(1);
        fails("not in the last move", MISSING, () -> x.phaseOf(0));
    }

    private static void darkOnes() {
        same("no move", new Bandplan().dark(), 0);
        Bandplan x = sold(2, new int[] {1, 0}, 400, 400);
        same("none yet", x.dark(), 0);
        x.move(1);
        same("one", x.dark(), 1);
        fails("a move that is refused", ARGUMENT, () -> x.move(5));
        same("one still", x.dark(), 1);
        x.move(1);
        same("the last move alone", x.dark(), 0);
    }

    private static void wholeLand() {
        promise = 32;
        line("Returns their number divided by that of all, both converted to float.", LinesTest::shares);
        line("Throws `ArithmeticException` if there are none", LinesTest::noShare);
        promise = 33;
        line("Returns the sum divided by their number, both converted to double.", LinesTest::means);
        line("Throws `ArithmeticException` if there are none", LinesTest::noMean);
        promise = 34;
        line("Returns whether all of this holds.", LinesTest::allHolds);
    }

    private static void shares() {
        for (int stations = 1; stations <= 8; stations++) {
            Bandplan x = crowd(stations);
            same("none on", x.onShare(), 0);
            for (int on = 1; on <= stations; on++) {
                x.putOn(on - 1, on - 1);
                same(on + " of " + stations, x.onShare(), (float) on / (float) stations);
            }
            same("all on", x.onShare(), 1);
        }
    }

    private static void noShare() {
        fails("no station", ARITHMETIC, () -> new Bandplan().onShare());
        fails("sites alone", ARITHMETIC, () -> oneCell().onShare());
        same("a station that is off", crowd(1).onShare(), 0);
    }

    private static void means() {
        Bandplan x = oneCell(-400, -101, -300);
        x.putOn(1, 7);
        same("one", x.meanLevel(), -99);
        x.putOn(2, 4);
        same("two, half a level", x.meanLevel(), 1 / 2.0);
        x.putOn(0, 0);
        same("all, thirds", x.meanLevel(), 201 / 3.0);
        x.putOff(1);
        x.putOff(2);
        x.addStation(0, 1, 0, false);
        x.addStation(0, 1, 0, false);
        putAll(x, -1, -1, -1, 0, 0);
        same("below 0", x.meanLevel(), -200 / 3.0);
        Bandplan y = new Bandplan();
        y.addSite(0, 0, 0);
        y.addSite(19, 19, 0);
        for (int i = 0; i < 8; i++) {
            y.addStation(0, 1, i % 2, false);
            y.putOn(i, i);
        }
        same("eight of the lowest", y.meanLevel(), -2343.5);
    }

    private static void noMean() {
        fails("no station", ARITHMETIC, () -> new Bandplan().meanLevel());
        Bandplan x = crowd(2);
        fails("none on", ARITHMETIC, x::meanLevel);
        x.putOn(1, 0);
        same("one on", x.meanLevel(), 200);
        x.putOff(1);
        fails("off again", ARITHMETIC, x::meanLevel);
    }

    private static void allHolds() {
        yes("a new land", new Bandplan().isSound());
        yes("a full one", full().isSound());
        Bandplan x = oneCell(400, -230);
        putAll(x, 3, 3);
        yes("a level just at the ratio", x.isSound());
        x.goOn(99);
        yes("with no change today", x.isSound());
        x.putOff(0);
        yes("with a change today", x.isSound());
        Bandplan y = threeCells();
        y.setRatio(240);
        putAll(y, 0, 3, 6);
        askAll(y, 2, 2, 2);
        y.sell(1, 1, 1);
        y.move(1);
        no("two harm a third one together", y.keeps(0));
        yes("by a move", y.isSound());
        y.goOn(1);
        yes("the day behind it too", y.isSound());
        Bandplan z = sold(2, new int[] {0, 1}, 400, 400);
        askAll(z, 50, 40);
        z.sell(50, 1, 1);
        z.setAsked(1, 9999);
        yes("asks for more once it is bought", z.isSound());
        z.addBidder(5, 5, 5);
        z.addBidder(5, 5, 5);
        z.buy(3);
        same("pays all its worths", z.pays(0), 15);
        yes("not more than them", z.isSound());
    }

    public static void main(String[] args) throws IOException {
        document = new Document();
        land();
        stations();
        register();
        abroad();
        packings();
        selling();
        buying();
        moving();
        wholeLand();
        document.needTests("Promise \\d+ \\| (Throws .*|.*\\d.*)");
        end("each line of the promises holds at its boundaries");
    }
}
